/-! X5_isOneGroupFrom -/
abbrev rmX5_isOneGroupFrom : Room := { frames := 1, cells := 0, slots := 0, locals := 21 }
theorem hdX5_isOneGroupFrom : yX5_isOneGroupFrom.cls ≠ "java/lang/invoke/MethodHandle" ∧ yX5_isOneGroupFrom.cls ≠ "java/lang/invoke/VarHandle" ∧ (parseMethodDescriptor yX5_isOneGroupFrom.desc).map (fun d => d.parameters.length) = some 2 := by decide +kernel
def fX5_isOneGroupFrom_J53 (n : Nat) (rec : PS → Nat → Int32 → Int32 → Option (Int32 ⊕ Unit)) (S : PS) (v0 : Nat) (v2 : Int32) (v3 : Int32) : Option (Int32 ⊕ Unit) := (if v2 = 0 then chk (okP S v0 5) (bP (fX4_size S v0) (fun r59 => (if v3 = (r59 - (3 : Int32)) then chk (b01 (1 : Int32)) (some (Sum.inl (1 : Int32))) else chk (b01 (0 : Int32)) (some (Sum.inl (0 : Int32)))))) else rec S v0 v2 (v3 + (1 : Int32)))
def fX5_isOneGroupFrom_L16 (n : Nat) : Nat → PS → Nat → Int32 → Int32 → Option (Int32 ⊕ Unit)
  | 0, _, _, _, _ => none
  | k + 1, S, v0, v2, v3 => chk (okP S v0 5) (bP (fX4_size S v0) (fun r18 => (if r18 ≤ v3 then some (Sum.inr ()) else chk (okP S v0 5) (bP (fX4_at S v0 v3) (fun r26 => (if r26 = (40 : Int32) then fX5_isOneGroupFrom_J53 n (fX5_isOneGroupFrom_L16 n k) S v0 (v2 + (1 : Int32)) v3 else chk (okP S v0 5) (bP (fX4_at S v0 v3) (fun r42 => (if r42 = (41 : Int32) then fX5_isOneGroupFrom_J53 n (fX5_isOneGroupFrom_L16 n k) S v0 (v2 + (-1 : Int32)) v3 else fX5_isOneGroupFrom_J53 n (fX5_isOneGroupFrom_L16 n k) S v0 v2 v3)))))))))
def fX5_isOneGroupFrom (n : Nat) (S : PS) (v0 : Nat) (v1 : Int32) : Option Int32 := chk (okP S v0 5) (bP (fX4_at S v0 v1) (fun r2 => (if r2 = (40 : Int32) then bS0 (fX5_isOneGroupFrom_L16 n n S v0 (0 : Int32) v1) (fun rr => some rr) (fun _ => chk (b01 (0 : Int32)) (some (0 : Int32))) else chk (b01 (0 : Int32)) (some (0 : Int32)))))
set_option maxRecDepth 100000 in
set_option maxHeartbeats 4000000 in
theorem sX5_isOneGroupFrom_J53 {X : JX} {cI cZ cO cJ : ClassId} {gs : JP} {n : Nat} {S : PS} {post : Option Value → va_W → Prop} (hX : jOK X cX5_isOneGroupFrom 4 wsX5_isOneGroupFrom RX5 rmX5_isOneGroupFrom) (hT : jT X = jTy cI cZ cO cJ) (hGX : jG X (GP gs)) (hret : jRZ X cX5_isOneGroupFrom rmX5_isOneGroupFrom post) {o : (Int32 ⊕ Unit)} {rec : PS → Nat → Int32 → Int32 → Option (Int32 ⊕ Unit)} {v0 : Nat} {v2 : Int32} {v3 : Int32} (hrec : ∀ (v0 : Nat) (v2 : Int32) (v3 : Int32), rec S v0 v2 v3 = some o → JW X 0 0 (pW cI cO S) 16 [(0, .ref v0), (2, .int v2), (3, .int v3)] [])  (hex : o = .inr () → JW X 0 0 (pW cI cO S) 79 [] []) (hro : ∀ (v9 : Int32), o = .inl v9 → post (some (.int v9)) (pW cI cO S)) (h : fX5_isOneGroupFrom_J53 n rec S v0 v2 v3 = some o) : JW X 0 0 (pW cI cO S) 53 [(0, .ref v0), (2, .int v2), (3, .int v3)] [] := by
  unfold fX5_isOneGroupFrom_J53 at h
  refine jw_iload_n hX dX5_isOneGroupFrom_53 rfl 1 rfl ?_
  refine jw_if_ne (tgt := 73) hX dX5_isOneGroupFrom_54 (by decide) (fun hc => ?_) (fun hc => ?_)
  · rw [if_neg hc] at h
    refine jw_iinc (v := (v3 + (1 : Int32))) hX [(3, .int (v3 + (1 : Int32))), (0, .ref v0), (2, .int v2)] dX5_isOneGroupFrom_73 2 rfl (by first | rfl | (congr 1; decide)) (by decide) rfl ?_
    refine jw_goto (tgt := 16) hX dX5_isOneGroupFrom_76 (by decide) ?_
    refine jw_sub [1, 2, 0] [(0, .ref v0), (2, .int v2), (3, .int (v3 + (1 : Int32)))] rfl ?_
    exact hrec _ _ _ h
  · rw [if_pos hc] at h
    refine jw_iload_n hX dX5_isOneGroupFrom_57 rfl 2 rfl ?_
    refine jw_aload_n hX dX5_isOneGroupFrom_58 rfl 0 rfl ?_
    obtain ⟨ho59_2, h⟩ := chk_some h
    obtain ⟨r59, hc59, h⟩ := bP_some h
    refine jw_pVi (As := []) hX (GP_ok gs) hGX 0 (kX4_size hT hc59) gX5_isOneGroupFrom_X4_size rfl hdX4_size ⟨by decide, by decide⟩ 5 rfl (by decide) ho59_2 rfl (Nat.le_of_ble_eq_true rfl) dX5_isOneGroupFrom_59 rfl rfl ⟨by decide, by decide⟩ ?_
    refine jw_iconst (v := (3 : Int32)) hX dX5_isOneGroupFrom_62 (by decide) ?_
    refine jw_isub hX dX5_isOneGroupFrom_63 ?_
    refine jw_icmp_ne (tgt := 71) hX dX5_isOneGroupFrom_64 (by decide) (fun hc => ?_) (fun hc => ?_)
    · rw [if_neg hc] at h
      refine jw_iconst (v := (0 : Int32)) hX dX5_isOneGroupFrom_71 (by decide) ?_
      obtain ⟨hz72, h⟩ := chk_some h
      exact hret _ _ _ _ _ _ (b01_or hz72) (by decide) (by decide) dX5_isOneGroupFrom_72 (hro _ (Option.some.inj h).symm)
    · rw [if_pos hc] at h
      refine jw_iconst (v := (1 : Int32)) hX dX5_isOneGroupFrom_67 (by decide) ?_
      refine jw_goto (tgt := 72) hX dX5_isOneGroupFrom_68 (by decide) ?_
      obtain ⟨hz72, h⟩ := chk_some h
      exact hret _ _ _ _ _ _ (b01_or hz72) (by decide) (by decide) dX5_isOneGroupFrom_72 (hro _ (Option.some.inj h).symm)
set_option maxRecDepth 100000 in
set_option maxHeartbeats 4000000 in
theorem sX5_isOneGroupFrom_L16 {X : JX} {cI cZ cO cJ : ClassId} {gs : JP} {n : Nat} {S : PS} {post : Option Value → va_W → Prop} (hX : jOK X cX5_isOneGroupFrom 4 wsX5_isOneGroupFrom RX5 rmX5_isOneGroupFrom) (hT : jT X = jTy cI cZ cO cJ) (hGX : jG X (GP gs)) (hret : jRZ X cX5_isOneGroupFrom rmX5_isOneGroupFrom post) {o : (Int32 ⊕ Unit)} (hex : o = .inr () → JW X 0 0 (pW cI cO S) 79 [] []) (hro : ∀ (v9 : Int32), o = .inl v9 → post (some (.int v9)) (pW cI cO S)) : ∀ (k : Nat) (v0 : Nat) (v2 : Int32) (v3 : Int32), fX5_isOneGroupFrom_L16 n k S v0 v2 v3 = some o → JW X 0 0 (pW cI cO S) 16 [(0, .ref v0), (2, .int v2), (3, .int v3)] [] := by
  intro k
  induction k with
  | zero => intro v0 v2 v3 h; cases h
  | succ k hrec0 =>
    intro v0 v2 v3 h
    unfold fX5_isOneGroupFrom_L16 at h
    refine jw_iload_n hX dX5_isOneGroupFrom_16 rfl 2 rfl ?_
    refine jw_aload_n hX dX5_isOneGroupFrom_17 rfl 0 rfl ?_
    obtain ⟨ho18_2, h⟩ := chk_some h
    obtain ⟨r18, hc18, h⟩ := bP_some h
    refine jw_pVi (As := []) hX (GP_ok gs) hGX 0 (kX4_size hT hc18) gX5_isOneGroupFrom_X4_size rfl hdX4_size ⟨by decide, by decide⟩ 5 rfl (by decide) ho18_2 rfl (Nat.le_of_ble_eq_true rfl) dX5_isOneGroupFrom_18 rfl rfl ⟨by decide, by decide⟩ ?_
    refine jw_icmp_ge (tgt := 79) hX dX5_isOneGroupFrom_21 (by decide) (fun hc => ?_) (fun hc => ?_)
    · rw [if_pos hc] at h
      refine jw_sub [] [] rfl ?_
      exact hex (Option.some.inj h).symm
    · rw [if_neg hc] at h
      refine jw_aload_n hX dX5_isOneGroupFrom_24 rfl 0 rfl ?_
      refine jw_iload_n hX dX5_isOneGroupFrom_25 rfl 2 rfl ?_
      obtain ⟨ho26_2, h⟩ := chk_some h
      obtain ⟨r26, hc26, h⟩ := bP_some h
      refine jw_pVi (As := [.int v3]) hX (GP_ok gs) hGX 1 (kX4_at hT hc26) gX5_isOneGroupFrom_X4_at rfl hdX4_at ⟨by decide, by decide⟩ 5 rfl (by decide) ho26_2 rfl (Nat.le_of_ble_eq_true rfl) dX5_isOneGroupFrom_26 rfl rfl ⟨by decide, by decide⟩ ?_
      refine jw_bipush (v := (40 : Int32)) hX dX5_isOneGroupFrom_29 (by decide) ?_
      refine jw_icmp_ne (tgt := 40) hX dX5_isOneGroupFrom_31 (by decide) (fun hc => ?_) (fun hc => ?_)
      · rw [if_neg hc] at h
        refine jw_aload_n hX dX5_isOneGroupFrom_40 rfl 0 rfl ?_
        refine jw_iload_n hX dX5_isOneGroupFrom_41 rfl 2 rfl ?_
        obtain ⟨ho42_2, h⟩ := chk_some h
        obtain ⟨r42, hc42, h⟩ := bP_some h
        refine jw_pVi (As := [.int v3]) hX (GP_ok gs) hGX 1 (kX4_at hT hc42) gX5_isOneGroupFrom_X4_at rfl hdX4_at ⟨by decide, by decide⟩ 5 rfl (by decide) ho42_2 rfl (Nat.le_of_ble_eq_true rfl) dX5_isOneGroupFrom_42 rfl rfl ⟨by decide, by decide⟩ ?_
        refine jw_bipush (v := (41 : Int32)) hX dX5_isOneGroupFrom_45 (by decide) ?_
        refine jw_icmp_ne (tgt := 53) hX dX5_isOneGroupFrom_47 (by decide) (fun hc => ?_) (fun hc => ?_)
        · rw [if_neg hc] at h
          exact sX5_isOneGroupFrom_J53 hX hT hGX hret hrec0 hex hro h
        · rw [if_pos hc] at h
          refine jw_iinc (v := (v2 + (-1 : Int32))) hX [(2, .int (v2 + (-1 : Int32))), (0, .ref v0), (3, .int v3)] dX5_isOneGroupFrom_50 1 rfl (by first | rfl | (congr 1; decide)) (by decide) rfl ?_
          refine jw_sub [1, 0, 2] [(0, .ref v0), (2, .int (v2 + (-1 : Int32))), (3, .int v3)] rfl ?_
          exact sX5_isOneGroupFrom_J53 hX hT hGX hret hrec0 hex hro h
      · rw [if_pos hc] at h
        refine jw_iinc (v := (v2 + (1 : Int32))) hX [(2, .int (v2 + (1 : Int32))), (0, .ref v0), (3, .int v3)] dX5_isOneGroupFrom_34 1 rfl (by first | rfl | (congr 1; decide)) (by decide) rfl ?_
        refine jw_goto (tgt := 53) hX dX5_isOneGroupFrom_37 (by decide) ?_
        refine jw_sub [1, 0, 2] [(0, .ref v0), (2, .int (v2 + (1 : Int32))), (3, .int v3)] rfl ?_
        exact sX5_isOneGroupFrom_J53 hX hT hGX hret hrec0 hex hro h
set_option maxRecDepth 100000 in
set_option maxHeartbeats 4000000 in
theorem sX5_isOneGroupFrom {X : JX} {cI cZ cO cJ : ClassId} {gs : JP} {n : Nat} {S : PS} {post : Option Value → va_W → Prop} (hX : jOK X cX5_isOneGroupFrom 4 wsX5_isOneGroupFrom RX5 rmX5_isOneGroupFrom) (hT : jT X = jTy cI cZ cO cJ) (hGX : jG X (GP gs)) (hret : jRZ X cX5_isOneGroupFrom rmX5_isOneGroupFrom post) {o : Int32} (hro : ∀ (v9 : Int32), o = v9 → post (some (.int v9)) (pW cI cO S))  {v0 : Nat} {v1 : Int32} (h : fX5_isOneGroupFrom n S v0 v1 = some o) : JW X 0 0 (pW cI cO S) 0 [(0, .ref v0), (1, .int v1)] [] := by
  unfold fX5_isOneGroupFrom at h
  refine jw_aload_n hX dX5_isOneGroupFrom_0 rfl 0 rfl ?_
  refine jw_iload_n hX dX5_isOneGroupFrom_1 rfl 1 rfl ?_
  obtain ⟨ho2_2, h⟩ := chk_some h
  obtain ⟨r2, hc2, h⟩ := bP_some h
  refine jw_pVi (As := [.int v1]) hX (GP_ok gs) hGX 1 (kX4_at hT hc2) gX5_isOneGroupFrom_X4_at rfl hdX4_at ⟨by decide, by decide⟩ 5 rfl (by decide) ho2_2 rfl (Nat.le_of_ble_eq_true rfl) dX5_isOneGroupFrom_2 rfl rfl ⟨by decide, by decide⟩ ?_
  refine jw_bipush (v := (40 : Int32)) hX dX5_isOneGroupFrom_5 (by decide) ?_
  refine jw_icmp_eq (tgt := 12) hX dX5_isOneGroupFrom_7 (by decide) (fun hc => ?_) (fun hc => ?_)
  · rw [if_pos hc] at h
    refine jw_iconst (v := (0 : Int32)) hX dX5_isOneGroupFrom_12 (by decide) ?_
    refine jw_istore_n hX [(2, .int (0 : Int32)), (0, .ref v0), (1, .int v1)] dX5_isOneGroupFrom_13 rfl (by decide) rfl ?_
    refine jw_iload_n hX dX5_isOneGroupFrom_14 rfl 2 rfl ?_
    refine jw_istore_n hX [(3, .int v1), (2, .int (0 : Int32)), (0, .ref v0), (1, .int v1)] dX5_isOneGroupFrom_15 rfl (by decide) rfl ?_
    refine jw_sub [2, 1, 0] [(0, .ref v0), (2, .int (0 : Int32)), (3, .int v1)] rfl ?_
    rcases bS0_some h with ⟨rr, hl16, h⟩ | ⟨hl16, h⟩
    · refine sX5_isOneGroupFrom_L16 hX hT hGX hret (o := .inl rr) (fun e9 => nomatch e9) (fun v9 e9 => ?_) n _ _ _ hl16
      cases e9
      exact hro _ (Option.some.inj h).symm
    · refine sX5_isOneGroupFrom_L16 hX hT hGX hret (o := .inr ()) (fun e9 => ?_) (fun v9 e9 => nomatch e9) n _ _ _ hl16
      cases e9
      refine jw_iconst (v := (0 : Int32)) hX dX5_isOneGroupFrom_79 (by decide) ?_
      obtain ⟨hz80, h⟩ := chk_some h
      exact hret _ _ _ _ _ _ (b01_or hz80) (by decide) (by decide) dX5_isOneGroupFrom_80 (hro _ (Option.some.inj h).symm)
  · rw [if_neg hc] at h
    refine jw_iconst (v := (0 : Int32)) hX dX5_isOneGroupFrom_10 (by decide) ?_
    obtain ⟨hz11, h⟩ := chk_some h
    exact hret _ _ _ _ _ _ (b01_or hz11) (by decide) (by decide) dX5_isOneGroupFrom_11 (hro _ (Option.some.inj h).symm)
set_option maxRecDepth 100000 in
set_option maxHeartbeats 4000000 in
theorem kX5_isOneGroupFrom {l : Launch} {D : va_G} {tys : List (ClassId × FieldType)} {cI cZ cO cJ : ClassId} {gs : JP} {n : Nat} {S : PS} {v0 : Nat} {v1 : Int32} {r : Int32} (hT : tys = jTy cI cZ cO cJ) (h : fX5_isOneGroupFrom n S v0 v1 = some r) : CC l (GP gs) D tys yX5_isOneGroupFrom wsX5_isOneGroupFrom rmX5_isOneGroupFrom [.ref v0, .int v1] (pW cI cO S) (fun ov w2 => ov = some (.int r) ∧ w2 = (pW cI cO S)) := by
  refine CC_of (cc := cX5_isOneGroupFrom) (maxL := 4) (ret := (some .boolean)) (by decide) rfl (Nat.le_of_ble_eq_true rfl) ?_
  intro X hD hL hT0 hGX hX rI rZ rV rA
  exact sX5_isOneGroupFrom (post := fun ov w2 => ov = some (.int r) ∧ w2 = (pW cI cO S)) hX (hT0.trans hT) hGX (fun cells slots w9 pc lv v => rZ cells slots w9 pc lv v rfl) (o := r) (fun v9 e9 => by cases e9; exact ⟨rfl, rfl⟩) h
/-! X4_replaceLast -/
abbrev rmX4_replaceLast : Room := { frames := 0, cells := 0, slots := 0, locals := 0 }
theorem hdX4_replaceLast : yX4_replaceLast.cls = RX4 ∧ yX4_replaceLast.cls ≠ "java/lang/invoke/MethodHandle" ∧ yX4_replaceLast.cls ≠ "java/lang/invoke/VarHandle" ∧ (parseMethodDescriptor yX4_replaceLast.desc).map (fun d => d.parameters.length) = some 1 := by decide +kernel
theorem lkX4_replaceLast_21 : Cond.fieldLink RX4 21 RX4 (TX4 1).2.1 (TX4 1).2.2.1 ∈ wsX4_replaceLast := by decide +kernel
theorem inX4_replaceLast_5 : ∀ w ∈ wsX40, w ∈ wsX4_replaceLast := fun _ h => List.mem_cons_of_mem _ (List.mem_append_right _ h)
theorem lkX4_replaceLast_15 : Cond.fieldLink RX4 15 RX4 (TX4 0).2.1 (TX4 0).2.2.1 ∈ wsX4_replaceLast := by decide +kernel
def fX4_replaceLast (S : PS) (v0 : Nat) (v1 : Int32) : Option PS := chk (okP S v0 5) (bnd (((sI S 51 v0) - (1 : Int32))) (fun y6 => (if y6 < 0 then some (S) else chk (okP S v0 5) (bP (sR S 50 v0) (fun q13 => chk (okP S q13 8) ((if (nI (sN S q13)) ≤ y6 then some (S) else chk (okP S v0 5) (bP (sR S 50 v0) (fun q21 => chk (okP S q21 8) (chk (inB y6 (sN S q21)) (bnd (pA S q21 (y6).toNatClampNeg v1) (fun w26 => some w26))))))))))))
set_option maxRecDepth 100000 in
set_option maxHeartbeats 4000000 in
theorem sX4_replaceLast {X : JX} {cI cZ cO cJ : ClassId} {gs : JP} {post : Option Value → va_W → Prop} (hX : jOK X cX4_replaceLast 3 wsX4_replaceLast RX4 rmX4_replaceLast) (hT : jT X = jTy cI cZ cO cJ) (hGX : jG X (GP gs)) (hret : jRV X cX4_replaceLast rmX4_replaceLast post) {o : PS} (hro : ∀  (w9 : PS), o = w9 → post none (pW cI cO w9))  {S : PS} {v0 : Nat} {v1 : Int32} (h : fX4_replaceLast S v0 v1 = some o) : JW X 0 0 (pW cI cO S) 0 [(0, .ref v0), (1, .int v1)] [] := by
  unfold fX4_replaceLast at h
  refine jw_aload_n hX dX4_replaceLast_0 rfl 0 rfl ?_
  obtain ⟨ho1_1, h⟩ := chk_some h
  refine jw_pgetI hX hT 5 1 rfl (by decide) (by decide) rfl inX4_replaceLast_5 rfl lkX4_replaceLast_21 ho1_1 dX4_replaceLast_1 ?_
  refine jw_iconst (v := (1 : Int32)) hX dX4_replaceLast_4 (by decide) ?_
  refine jw_isub hX dX4_replaceLast_5 ?_
  refine jw_topi (fun y6 e6 => ?_)
  replace h := bnd_some h y6 e6
  clear e6
  refine jw_istore_n hX [(2, .int y6), (0, .ref v0), (1, .int v1)] dX4_replaceLast_6 rfl (by decide) rfl ?_
  refine jw_iload_n hX dX4_replaceLast_7 rfl 0 rfl ?_
  refine jw_if_lt (tgt := 27) hX dX4_replaceLast_8 (by decide) (fun hc => ?_) (fun hc => ?_)
  · rw [if_pos hc] at h
    exact hret _ _ _ _ _ (by decide) (by decide) dX4_replaceLast_27 (hro _ (Option.some.inj h).symm)
  · rw [if_neg hc] at h
    refine jw_iload_n hX dX4_replaceLast_11 rfl 0 rfl ?_
    refine jw_aload_n hX dX4_replaceLast_12 rfl 1 rfl ?_
    obtain ⟨ho13_2, h⟩ := chk_some h
    obtain ⟨q13, hr13, h⟩ := bP_some h
    refine jw_pgetR hX hT 5 0 rfl (by decide) (by decide) rfl inX4_replaceLast_5 rfl lkX4_replaceLast_15 ho13_2 hr13 dX4_replaceLast_13 ?_
    obtain ⟨ho16_5, h⟩ := chk_some h
    refine jw_pialen hX hT ho16_5 dX4_replaceLast_16 ?_
    refine jw_icmp_ge (tgt := 27) hX dX4_replaceLast_17 (by decide) (fun hc => ?_) (fun hc => ?_)
    · rw [if_pos hc] at h
      exact hret _ _ _ _ _ (by decide) (by decide) dX4_replaceLast_27 (hro _ (Option.some.inj h).symm)
    · rw [if_neg hc] at h
      refine jw_aload_n hX dX4_replaceLast_20 rfl 1 rfl ?_
      obtain ⟨ho21_1, h⟩ := chk_some h
      obtain ⟨q21, hr21, h⟩ := bP_some h
      refine jw_pgetR hX hT 5 0 rfl (by decide) (by decide) rfl inX4_replaceLast_5 rfl lkX4_replaceLast_15 ho21_1 hr21 dX4_replaceLast_21 ?_
      refine jw_iload_n hX dX4_replaceLast_24 rfl 0 rfl ?_
      refine jw_iload_n hX dX4_replaceLast_25 rfl 2 rfl ?_
      obtain ⟨ho26_6, h⟩ := chk_some h
      obtain ⟨hb26, h⟩ := chk_some h
      refine jw_piast hX hT ho26_6 hb26 dX4_replaceLast_26 (fun w26 e26 => ?_)
      replace h := bnd_some h w26 e26
      clear e26
      exact hret _ _ _ _ _ (by decide) (by decide) dX4_replaceLast_27 (hro _ (Option.some.inj h).symm)
set_option maxRecDepth 100000 in
set_option maxHeartbeats 4000000 in
theorem kX4_replaceLast {l : Launch} {D : va_G} {tys : List (ClassId × FieldType)} {cI cZ cO cJ : ClassId} {gs : JP} {S : PS} {v0 : Nat} {v1 : Int32} {w1 : PS} (hT : tys = jTy cI cZ cO cJ) (h : fX4_replaceLast S v0 v1 = some w1) : CC l (GP gs) D tys yX4_replaceLast wsX4_replaceLast rmX4_replaceLast [.ref v0, .int v1] (pW cI cO S) (fun ov w2 => ov = none ∧ w2 = (pW cI cO w1)) := by
  refine CC_of (cc := cX4_replaceLast) (maxL := 3) (ret := none) (by decide) rfl (Nat.le_of_ble_eq_true rfl) ?_
  intro X hD hL hT0 hGX hX rI rZ rV rA
  exact sX4_replaceLast (post := fun ov w2 => ov = none ∧ w2 = (pW cI cO w1)) hX (hT0.trans hT) hGX (fun cells slots w9 pc lv => rV cells slots w9 pc lv rfl) (o := w1) (fun w9 e9 => by cases e9; exact ⟨rfl, rfl⟩) h
/-! X5_closeGroup -/
abbrev rmX5_closeGroup : Room := { frames := 2, cells := 0, slots := 0, locals := 44 }
theorem hdX5_closeGroup : yX5_closeGroup.cls ≠ "java/lang/invoke/MethodHandle" ∧ yX5_closeGroup.cls ≠ "java/lang/invoke/VarHandle" ∧ (parseMethodDescriptor yX5_closeGroup.desc).map (fun d => d.parameters.length) = some 2 := by decide +kernel
def fX5_closeGroup_J56 (n : Nat) (S : PS) (v0 : Nat) (v1 : Int32) : Option PS := chk (okP S v0 5) (bP (fX4_add S v0 (41 : Int32)) (fun w59 => chk (okP w59 v0 5) (bP (fX4_add w59 v0 (120 : Int32)) (fun w65 => chk (okP w65 v0 5) (bP (fX4_add w65 v0 ((48 : Int32) + v1)) (fun w73 => some w73))))))
def fX5_closeGroup (n : Nat) (S : PS) (v0 : Nat) (v1 : Int32) : Option PS := bP (fX5_lastOpen n S v0) (fun r1 => (if v1 = (1 : Int32) then chk (okP S v0 5) (bP (fX4_remove n S v0 r1) (fun w12 => some w12)) else chk (okP S v0 5) (bP (fX4_last S v0) (fun r18 => bnd ((v1 * (r18 - (48 : Int32)))) (fun y25 => bP (fX5_isOneGroupFrom n S v0 (r1 + (1 : Int32))) (fun r30 => (if r30 = 0 then fX5_closeGroup_J56 n S v0 v1 else (if (9 : Int32) < y25 then fX5_closeGroup_J56 n S v0 v1 else chk (okP S v0 5) (bP (fX4_remove n S v0 r1) (fun w44 => chk (okP w44 v0 5) (bP (fX4_replaceLast w44 v0 ((48 : Int32) + y25)) (fun w52 => some w52))))))))))))
set_option maxRecDepth 100000 in
set_option maxHeartbeats 4000000 in
theorem sX5_closeGroup_J56 {X : JX} {cI cZ cO cJ : ClassId} {gs : JP} {n : Nat} {post : Option Value → va_W → Prop} (hX : jOK X cX5_closeGroup 4 wsX5_closeGroup RX5 rmX5_closeGroup) (hT : jT X = jTy cI cZ cO cJ) (hGX : jG X (GP gs)) (hret : jRV X cX5_closeGroup rmX5_closeGroup post) {o : PS} {v0 : Nat} {v1 : Int32} {S : PS}   (hro : ∀  (w9 : PS), o = w9 → post none (pW cI cO w9)) (h : fX5_closeGroup_J56 n S v0 v1 = some o) : JW X 0 0 (pW cI cO S) 56 [(0, .ref v0), (1, .int v1)] [] := by
  unfold fX5_closeGroup_J56 at h
  refine jw_aload_n hX dX5_closeGroup_56 rfl 0 rfl ?_
  refine jw_bipush (v := (41 : Int32)) hX dX5_closeGroup_57 (by decide) ?_
  obtain ⟨ho59_2, h⟩ := chk_some h
  obtain ⟨w59, hc59, h⟩ := bP_some h
  refine jw_pVv (As := [.int (41 : Int32)]) hX (GP_ok gs) hGX 1 (kX4_add hT hc59) gX5_closeGroup_X4_add rfl hdX4_add ⟨by decide, by decide⟩ 5 rfl (by decide) ho59_2 rfl (Nat.le_of_ble_eq_true rfl) dX5_closeGroup_59 rfl rfl ⟨by decide, by decide⟩ ?_
  refine jw_aload_n hX dX5_closeGroup_62 rfl 0 rfl ?_
  refine jw_bipush (v := (120 : Int32)) hX dX5_closeGroup_63 (by decide) ?_
  obtain ⟨ho65_7, h⟩ := chk_some h
  obtain ⟨w65, hc65, h⟩ := bP_some h
  refine jw_pVv (As := [.int (120 : Int32)]) hX (GP_ok gs) hGX 1 (kX4_add hT hc65) gX5_closeGroup_X4_add rfl hdX4_add ⟨by decide, by decide⟩ 5 rfl (by decide) ho65_7 rfl (Nat.le_of_ble_eq_true rfl) dX5_closeGroup_65 rfl rfl ⟨by decide, by decide⟩ ?_
  refine jw_aload_n hX dX5_closeGroup_68 rfl 0 rfl ?_
  refine jw_bipush (v := (48 : Int32)) hX dX5_closeGroup_69 (by decide) ?_
  refine jw_iload_n hX dX5_closeGroup_71 rfl 1 rfl ?_
  refine jw_iadd hX dX5_closeGroup_72 ?_
  obtain ⟨ho73_14, h⟩ := chk_some h
  obtain ⟨w73, hc73, h⟩ := bP_some h
  refine jw_pVv (As := [.int ((48 : Int32) + v1)]) hX (GP_ok gs) hGX 1 (kX4_add hT hc73) gX5_closeGroup_X4_add rfl hdX4_add ⟨by decide, by decide⟩ 5 rfl (by decide) ho73_14 rfl (Nat.le_of_ble_eq_true rfl) dX5_closeGroup_73 rfl rfl ⟨by decide, by decide⟩ ?_
  exact hret _ _ _ _ _ (by decide) (by decide) dX5_closeGroup_76 (hro _ (Option.some.inj h).symm)
set_option maxRecDepth 100000 in
set_option maxHeartbeats 4000000 in
theorem sX5_closeGroup {X : JX} {cI cZ cO cJ : ClassId} {gs : JP} {n : Nat} {post : Option Value → va_W → Prop} (hX : jOK X cX5_closeGroup 4 wsX5_closeGroup RX5 rmX5_closeGroup) (hT : jT X = jTy cI cZ cO cJ) (hGX : jG X (GP gs)) (hret : jRV X cX5_closeGroup rmX5_closeGroup post) {o : PS} (hro : ∀  (w9 : PS), o = w9 → post none (pW cI cO w9))  {S : PS} {v0 : Nat} {v1 : Int32} (h : fX5_closeGroup n S v0 v1 = some o) : JW X 0 0 (pW cI cO S) 0 [(0, .ref v0), (1, .int v1)] [] := by
  unfold fX5_closeGroup at h
  refine jw_aload_n hX dX5_closeGroup_0 rfl 0 rfl ?_
  obtain ⟨r1, hc1, h⟩ := bP_some h
  refine jw_cSi (As := [.ref v0]) hX (GP_ok gs) hGX 1 (kX5_lastOpen hT hc1) gX5_closeGroup_X5_lastOpen rfl hdX5_lastOpen ⟨by decide, by decide⟩ rfl (Nat.le_of_ble_eq_true rfl) dX5_closeGroup_1 rfl rfl ⟨by decide, by decide⟩ ?_
  refine jw_istore_n hX [(2, .int r1), (0, .ref v0), (1, .int v1)] dX5_closeGroup_4 rfl (by decide) rfl ?_
  refine jw_iload_n hX dX5_closeGroup_5 rfl 2 rfl ?_
  refine jw_iconst (v := (1 : Int32)) hX dX5_closeGroup_6 (by decide) ?_
  refine jw_icmp_ne (tgt := 16) hX dX5_closeGroup_7 (by decide) (fun hc => ?_) (fun hc => ?_)
  · rw [if_neg hc] at h
    refine jw_iload_n hX dX5_closeGroup_16 rfl 2 rfl ?_
    refine jw_aload_n hX dX5_closeGroup_17 rfl 1 rfl ?_
    obtain ⟨ho18_2, h⟩ := chk_some h
    obtain ⟨r18, hc18, h⟩ := bP_some h
    refine jw_pVi (As := []) hX (GP_ok gs) hGX 0 (kX4_last hT hc18) gX5_closeGroup_X4_last rfl hdX4_last ⟨by decide, by decide⟩ 5 rfl (by decide) ho18_2 rfl (Nat.le_of_ble_eq_true rfl) dX5_closeGroup_18 rfl rfl ⟨by decide, by decide⟩ ?_
    refine jw_bipush (v := (48 : Int32)) hX dX5_closeGroup_21 (by decide) ?_
    refine jw_isub hX dX5_closeGroup_23 ?_
    refine jw_imul hX dX5_closeGroup_24 ?_
    refine jw_topi (fun y25 e25 => ?_)
    replace h := bnd_some h y25 e25
    clear e25
    refine jw_istore_n hX [(3, .int y25), (2, .int r1), (0, .ref v0), (1, .int v1)] dX5_closeGroup_25 rfl (by decide) rfl ?_
    refine jw_aload_n hX dX5_closeGroup_26 rfl 2 rfl ?_
    refine jw_iload_n hX dX5_closeGroup_27 rfl 1 rfl ?_
    refine jw_iconst (v := (1 : Int32)) hX dX5_closeGroup_28 (by decide) ?_
    refine jw_iadd hX dX5_closeGroup_29 ?_
    obtain ⟨r30, hc30, h⟩ := bP_some h
    refine jw_cSi (As := [.ref v0, .int (r1 + (1 : Int32))]) hX (GP_ok gs) hGX 2 (kX5_isOneGroupFrom hT hc30) gX5_closeGroup_X5_isOneGroupFrom rfl hdX5_isOneGroupFrom ⟨by decide, by decide⟩ rfl (Nat.le_of_ble_eq_true rfl) dX5_closeGroup_30 rfl rfl ⟨by decide, by decide⟩ ?_
    refine jw_if_eq (tgt := 56) hX dX5_closeGroup_33 (by decide) (fun hc => ?_) (fun hc => ?_)
    · rw [if_pos hc] at h
      refine jw_sub [2, 3] [(0, .ref v0), (1, .int v1)] rfl ?_
      exact sX5_closeGroup_J56 hX hT hGX hret hro h
    · rw [if_neg hc] at h
      refine jw_iload_n hX dX5_closeGroup_36 rfl 0 rfl ?_
      refine jw_bipush (v := (9 : Int32)) hX dX5_closeGroup_37 (by decide) ?_
      refine jw_icmp_gt (tgt := 56) hX dX5_closeGroup_39 (by decide) (fun hc => ?_) (fun hc => ?_)
      · rw [if_pos hc] at h
        refine jw_sub [2, 3] [(0, .ref v0), (1, .int v1)] rfl ?_
        exact sX5_closeGroup_J56 hX hT hGX hret hro h
      · rw [if_neg hc] at h
        refine jw_aload_n hX dX5_closeGroup_42 rfl 2 rfl ?_
        refine jw_iload_n hX dX5_closeGroup_43 rfl 1 rfl ?_
        obtain ⟨ho44_2, h⟩ := chk_some h
        obtain ⟨w44, hc44, h⟩ := bP_some h
        refine jw_pVv (As := [.int r1]) hX (GP_ok gs) hGX 1 (kX4_remove hT hc44) gX5_closeGroup_X4_remove rfl hdX4_remove ⟨by decide, by decide⟩ 5 rfl (by decide) ho44_2 rfl (Nat.le_of_ble_eq_true rfl) dX5_closeGroup_44 rfl rfl ⟨by decide, by decide⟩ ?_
        refine jw_aload_n hX dX5_closeGroup_47 rfl 2 rfl ?_
        refine jw_bipush (v := (48 : Int32)) hX dX5_closeGroup_48 (by decide) ?_
        refine jw_iload_n hX dX5_closeGroup_50 rfl 0 rfl ?_
        refine jw_iadd hX dX5_closeGroup_51 ?_
        obtain ⟨ho52_9, h⟩ := chk_some h
        obtain ⟨w52, hc52, h⟩ := bP_some h
        refine jw_pVv (As := [.int ((48 : Int32) + y25)]) hX (GP_ok gs) hGX 1 (kX4_replaceLast hT hc52) gX5_closeGroup_X4_replaceLast rfl hdX4_replaceLast ⟨by decide, by decide⟩ 5 rfl (by decide) ho52_9 rfl (Nat.le_of_ble_eq_true rfl) dX5_closeGroup_52 rfl rfl ⟨by decide, by decide⟩ ?_
        exact hret _ _ _ _ _ (by decide) (by decide) dX5_closeGroup_55 (hro _ (Option.some.inj h).symm)
  · rw [if_pos hc] at h
    refine jw_aload_n hX dX5_closeGroup_10 rfl 1 rfl ?_
    refine jw_iload_n hX dX5_closeGroup_11 rfl 0 rfl ?_
    obtain ⟨ho12_2, h⟩ := chk_some h
    obtain ⟨w12, hc12, h⟩ := bP_some h
    refine jw_pVv (As := [.int r1]) hX (GP_ok gs) hGX 1 (kX4_remove hT hc12) gX5_closeGroup_X4_remove rfl hdX4_remove ⟨by decide, by decide⟩ 5 rfl (by decide) ho12_2 rfl (Nat.le_of_ble_eq_true rfl) dX5_closeGroup_12 rfl rfl ⟨by decide, by decide⟩ ?_
    exact hret _ _ _ _ _ (by decide) (by decide) dX5_closeGroup_15 (hro _ (Option.some.inj h).symm)
set_option maxRecDepth 100000 in
set_option maxHeartbeats 4000000 in
theorem kX5_closeGroup {l : Launch} {D : va_G} {tys : List (ClassId × FieldType)} {cI cZ cO cJ : ClassId} {gs : JP} {n : Nat} {S : PS} {v0 : Nat} {v1 : Int32} {w1 : PS} (hT : tys = jTy cI cZ cO cJ) (h : fX5_closeGroup n S v0 v1 = some w1) : CC l (GP gs) D tys yX5_closeGroup wsX5_closeGroup rmX5_closeGroup [.ref v0, .int v1] (pW cI cO S) (fun ov w2 => ov = none ∧ w2 = (pW cI cO w1)) := by
  refine CC_of (cc := cX5_closeGroup) (maxL := 4) (ret := none) (by decide) rfl (Nat.le_of_ble_eq_true rfl) ?_
  intro X hD hL hT0 hGX hX rI rZ rV rA
  exact sX5_closeGroup (post := fun ov w2 => ov = none ∧ w2 = (pW cI cO w1)) hX (hT0.trans hT) hGX (fun cells slots w9 pc lv => rV cells slots w9 pc lv rfl) (o := w1) (fun w9 e9 => by cases e9; exact ⟨rfl, rfl⟩) h
/-! X5_writeForm -/
abbrev rmX5_writeForm : Room := { frames := 3, cells := 0, slots := 0, locals := 67 }
theorem hdX5_writeForm : yX5_writeForm.cls ≠ "java/lang/invoke/MethodHandle" ∧ yX5_writeForm.cls ≠ "java/lang/invoke/VarHandle" ∧ (parseMethodDescriptor yX5_writeForm.desc).map (fun d => d.parameters.length) = some 2 := by decide +kernel
theorem n1X5_writeForm_X6_isAccount : Cond.static yX6_isAccount ∈ wsX5_writeForm := by decide +kernel
theorem n2X5_writeForm_X6_isAccount : Cond.initialized yX6_isAccount.cls ∈ wsX5_writeForm := by decide +kernel
def fX5_writeForm_L6 (n : Nat) : Nat → PS → Nat → Nat → Int32 → Option (PS)
  | 0, _, _, _, _ => none
  | k + 1, S, v0, v1, v2 => chk (okP S v0 5) (bP (fX4_size S v0) (fun r8 => (if r8 ≤ v2 then some (S) else chk (okP S v0 5) (bP (fX4_at S v0 v2) (fun r16 => bP (fX6_isAccount r16) (fun r21 => (if r21 = 0 then (if r16 = (40 : Int32) then bP (fX5_addBlankBehindItem S v1) (fun w47 => chk (okP w47 v1 5) (bP (fX4_add w47 v1 r16) (fun w52 => fX5_writeForm_L6 n k w52 v0 v1 (v2 + (1 : Int32))))) else (if r16 = (41 : Int32) then bP (fX5_timesBehind S v0 v2) (fun r67 => bP (fX5_closeGroup n S v1 r67) (fun w70 => fX5_writeForm_L6 n k w70 v0 v1 (v2 + (1 : Int32)))) else fX5_writeForm_L6 n k S v0 v1 (v2 + (1 : Int32)))) else bP (fX5_addBlankBehindItem S v1) (fun w28 => bP (fX5_addPosting n w28 v0 v2 v1) (fun w34 => fX5_writeForm_L6 n k w34 v0 v1 (v2 + (1 : Int32)))))))))))
def fX5_writeForm (n : Nat) (S : PS) (v0 : Nat) (v1 : Nat) : Option PS := chk (okP S v1 5) (bP (fX4_empty S v1) (fun w1 => bL1 (fX5_writeForm_L6 n n w1 v0 v1 (0 : Int32)) (fun wx6 => some wx6)))
set_option maxRecDepth 100000 in
set_option maxHeartbeats 4000000 in
theorem sX5_writeForm_L6 {X : JX} {cI cZ cO cJ : ClassId} {gs : JP} {n : Nat} {post : Option Value → va_W → Prop} (hX : jOK X cX5_writeForm 4 wsX5_writeForm RX5 rmX5_writeForm) (hT : jT X = jTy cI cZ cO cJ) (hGX : jG X (GP gs)) (hret : jRV X cX5_writeForm rmX5_writeForm post) {o : (PS)} (hex : ∀ (w9 : PS), o = w9 → JW X 0 0 (pW cI cO w9) 79 [] [])  : ∀ (k : Nat) (S : PS) (v0 : Nat) (v1 : Nat) (v2 : Int32), fX5_writeForm_L6 n k S v0 v1 v2 = some o → JW X 0 0 (pW cI cO S) 6 [(0, .ref v0), (1, .ref v1), (2, .int v2)] [] := by
  intro k
  induction k with
  | zero => intro S v0 v1 v2 h; cases h
  | succ k hrec0 =>
    intro S v0 v1 v2 h
    unfold fX5_writeForm_L6 at h
    refine jw_iload_n hX dX5_writeForm_6 rfl 2 rfl ?_
    refine jw_aload_n hX dX5_writeForm_7 rfl 0 rfl ?_
    obtain ⟨ho8_2, h⟩ := chk_some h
    obtain ⟨r8, hc8, h⟩ := bP_some h
    refine jw_pVi (As := []) hX (GP_ok gs) hGX 0 (kX4_size hT hc8) gX5_writeForm_X4_size rfl hdX4_size ⟨by decide, by decide⟩ 5 rfl (by decide) ho8_2 rfl (Nat.le_of_ble_eq_true rfl) dX5_writeForm_8 rfl rfl ⟨by decide, by decide⟩ ?_
    refine jw_icmp_ge (tgt := 79) hX dX5_writeForm_11 (by decide) (fun hc => ?_) (fun hc => ?_)
    · rw [if_pos hc] at h
      refine jw_sub [] [] rfl ?_
      exact hex _ (Option.some.inj h).symm
    · rw [if_neg hc] at h
      refine jw_aload_n hX dX5_writeForm_14 rfl 0 rfl ?_
      refine jw_iload_n hX dX5_writeForm_15 rfl 2 rfl ?_
      obtain ⟨ho16_2, h⟩ := chk_some h
      obtain ⟨r16, hc16, h⟩ := bP_some h
      refine jw_pVi (As := [.int v2]) hX (GP_ok gs) hGX 1 (kX4_at hT hc16) gX5_writeForm_X4_at rfl hdX4_at ⟨by decide, by decide⟩ 5 rfl (by decide) ho16_2 rfl (Nat.le_of_ble_eq_true rfl) dX5_writeForm_16 rfl rfl ⟨by decide, by decide⟩ ?_
      refine jw_istore_n hX [(3, .int r16), (0, .ref v0), (1, .ref v1), (2, .int v2)] dX5_writeForm_19 rfl (by decide) rfl ?_
      refine jw_iload_n hX dX5_writeForm_20 rfl 0 rfl ?_
      obtain ⟨r21, hc21, h⟩ := bP_some h
      refine jw_pSNi (As := [.int r16]) hX (GP_ok gs) hGX 1 (kX6_isAccount hT hc21) gX5_writeForm_X6_isAccount_n22 rfl (gp_nm hGX (w := .methodLinkNest RX5 22 yX6_isAccount "Postlint") (by decide +kernel)) (Or.inl n1X5_writeForm_X6_isAccount) (Or.inl n2X5_writeForm_X6_isAccount) hdX6_isAccount ⟨by decide, by decide⟩ rfl (Nat.le_of_ble_eq_true rfl) dX5_writeForm_21 rfl rfl ⟨by decide, by decide⟩ ?_
      refine jw_if_eq (tgt := 40) hX dX5_writeForm_24 (by decide) (fun hc => ?_) (fun hc => ?_)
      · rw [if_pos hc] at h
        refine jw_iload_n hX dX5_writeForm_40 rfl 0 rfl ?_
        refine jw_bipush (v := (40 : Int32)) hX dX5_writeForm_41 (by decide) ?_
        refine jw_icmp_ne (tgt := 58) hX dX5_writeForm_43 (by decide) (fun hc => ?_) (fun hc => ?_)
        · rw [if_neg hc] at h
          refine jw_iload_n hX dX5_writeForm_58 rfl 0 rfl ?_
          refine jw_bipush (v := (41 : Int32)) hX dX5_writeForm_59 (by decide) ?_
          refine jw_icmp_ne (tgt := 73) hX dX5_writeForm_61 (by decide) (fun hc => ?_) (fun hc => ?_)
          · rw [if_neg hc] at h
            refine jw_iinc (v := (v2 + (1 : Int32))) hX [(2, .int (v2 + (1 : Int32))), (3, .int r16), (0, .ref v0), (1, .ref v1)] dX5_writeForm_73 3 rfl (by first | rfl | (congr 1; decide)) (by decide) rfl ?_
            refine jw_goto (tgt := 6) hX dX5_writeForm_76 (by decide) ?_
            refine jw_sub [2, 3, 0] [(0, .ref v0), (1, .ref v1), (2, .int (v2 + (1 : Int32)))] rfl ?_
            exact hrec0 _ _ _ _ h
          · rw [if_pos hc] at h
            refine jw_aload_n hX dX5_writeForm_64 rfl 2 rfl ?_
            refine jw_aload_n hX dX5_writeForm_65 rfl 1 rfl ?_
            refine jw_iload_n hX dX5_writeForm_66 rfl 3 rfl ?_
            obtain ⟨r67, hc67, h⟩ := bP_some h
            refine jw_cSi (As := [.ref v0, .int v2]) hX (GP_ok gs) hGX 2 (kX5_timesBehind hT hc67) gX5_writeForm_X5_timesBehind rfl hdX5_timesBehind ⟨by decide, by decide⟩ rfl (Nat.le_of_ble_eq_true rfl) dX5_writeForm_67 rfl rfl ⟨by decide, by decide⟩ ?_
            obtain ⟨w70, hc70, h⟩ := bP_some h
            refine jw_cSv (As := [.ref v1, .int r67]) hX (GP_ok gs) hGX 2 (kX5_closeGroup hT hc70) gX5_writeForm_X5_closeGroup rfl hdX5_closeGroup ⟨by decide, by decide⟩ rfl (Nat.le_of_ble_eq_true rfl) dX5_writeForm_70 rfl rfl ⟨by decide, by decide⟩ ?_
            refine jw_iinc (v := (v2 + (1 : Int32))) hX [(2, .int (v2 + (1 : Int32))), (3, .int r16), (0, .ref v0), (1, .ref v1)] dX5_writeForm_73 3 rfl (by first | rfl | (congr 1; decide)) (by decide) rfl ?_
            refine jw_goto (tgt := 6) hX dX5_writeForm_76 (by decide) ?_
            refine jw_sub [2, 3, 0] [(0, .ref v0), (1, .ref v1), (2, .int (v2 + (1 : Int32)))] rfl ?_
            exact hrec0 _ _ _ _ h
        · rw [if_pos hc] at h
          refine jw_aload_n hX dX5_writeForm_46 rfl 2 rfl ?_
          obtain ⟨w47, hc47, h⟩ := bP_some h
          refine jw_cSv (As := [.ref v1]) hX (GP_ok gs) hGX 1 (kX5_addBlankBehindItem hT hc47) gX5_writeForm_X5_addBlankBehindItem rfl hdX5_addBlankBehindItem ⟨by decide, by decide⟩ rfl (Nat.le_of_ble_eq_true rfl) dX5_writeForm_47 rfl rfl ⟨by decide, by decide⟩ ?_
          refine jw_aload_n hX dX5_writeForm_50 rfl 2 rfl ?_
          refine jw_iload_n hX dX5_writeForm_51 rfl 0 rfl ?_
          obtain ⟨ho52_5, h⟩ := chk_some h
          obtain ⟨w52, hc52, h⟩ := bP_some h
          refine jw_pVv (As := [.int r16]) hX (GP_ok gs) hGX 1 (kX4_add hT hc52) gX5_writeForm_X4_add rfl hdX4_add ⟨by decide, by decide⟩ 5 rfl (by decide) ho52_5 rfl (Nat.le_of_ble_eq_true rfl) dX5_writeForm_52 rfl rfl ⟨by decide, by decide⟩ ?_
          refine jw_goto (tgt := 73) hX dX5_writeForm_55 (by decide) ?_
          refine jw_iinc (v := (v2 + (1 : Int32))) hX [(2, .int (v2 + (1 : Int32))), (3, .int r16), (0, .ref v0), (1, .ref v1)] dX5_writeForm_73 3 rfl (by first | rfl | (congr 1; decide)) (by decide) rfl ?_
          refine jw_goto (tgt := 6) hX dX5_writeForm_76 (by decide) ?_
          refine jw_sub [2, 3, 0] [(0, .ref v0), (1, .ref v1), (2, .int (v2 + (1 : Int32)))] rfl ?_
          exact hrec0 _ _ _ _ h
      · rw [if_neg hc] at h
        refine jw_aload_n hX dX5_writeForm_27 rfl 2 rfl ?_
        obtain ⟨w28, hc28, h⟩ := bP_some h
        refine jw_cSv (As := [.ref v1]) hX (GP_ok gs) hGX 1 (kX5_addBlankBehindItem hT hc28) gX5_writeForm_X5_addBlankBehindItem rfl hdX5_addBlankBehindItem ⟨by decide, by decide⟩ rfl (Nat.le_of_ble_eq_true rfl) dX5_writeForm_28 rfl rfl ⟨by decide, by decide⟩ ?_
        refine jw_aload_n hX dX5_writeForm_31 rfl 1 rfl ?_
        refine jw_iload_n hX dX5_writeForm_32 rfl 3 rfl ?_
        refine jw_aload_n hX dX5_writeForm_33 rfl 2 rfl ?_
        obtain ⟨w34, hc34, h⟩ := bP_some h
        refine jw_cSv (As := [.ref v0, .int v2, .ref v1]) hX (GP_ok gs) hGX 3 (kX5_addPosting hT hc34) gX5_writeForm_X5_addPosting rfl hdX5_addPosting ⟨by decide, by decide⟩ rfl (Nat.le_of_ble_eq_true rfl) dX5_writeForm_34 rfl rfl ⟨by decide, by decide⟩ ?_
        refine jw_goto (tgt := 73) hX dX5_writeForm_37 (by decide) ?_
        refine jw_iinc (v := (v2 + (1 : Int32))) hX [(2, .int (v2 + (1 : Int32))), (3, .int r16), (0, .ref v0), (1, .ref v1)] dX5_writeForm_73 3 rfl (by first | rfl | (congr 1; decide)) (by decide) rfl ?_
        refine jw_goto (tgt := 6) hX dX5_writeForm_76 (by decide) ?_
        refine jw_sub [2, 3, 0] [(0, .ref v0), (1, .ref v1), (2, .int (v2 + (1 : Int32)))] rfl ?_
        exact hrec0 _ _ _ _ h
set_option maxRecDepth 100000 in
set_option maxHeartbeats 4000000 in
theorem sX5_writeForm {X : JX} {cI cZ cO cJ : ClassId} {gs : JP} {n : Nat} {post : Option Value → va_W → Prop} (hX : jOK X cX5_writeForm 4 wsX5_writeForm RX5 rmX5_writeForm) (hT : jT X = jTy cI cZ cO cJ) (hGX : jG X (GP gs)) (hret : jRV X cX5_writeForm rmX5_writeForm post) {o : PS} (hro : ∀  (w9 : PS), o = w9 → post none (pW cI cO w9))  {S : PS} {v0 : Nat} {v1 : Nat} (h : fX5_writeForm n S v0 v1 = some o) : JW X 0 0 (pW cI cO S) 0 [(0, .ref v0), (1, .ref v1)] [] := by
  unfold fX5_writeForm at h
  refine jw_aload_n hX dX5_writeForm_0 rfl 1 rfl ?_
  obtain ⟨ho1_1, h⟩ := chk_some h
  obtain ⟨w1, hc1, h⟩ := bP_some h
  refine jw_pVv (As := []) hX (GP_ok gs) hGX 0 (kX4_empty hT hc1) gX5_writeForm_X4_empty rfl hdX4_empty ⟨by decide, by decide⟩ 5 rfl (by decide) ho1_1 rfl (Nat.le_of_ble_eq_true rfl) dX5_writeForm_1 rfl rfl ⟨by decide, by decide⟩ ?_
  refine jw_iconst (v := (0 : Int32)) hX dX5_writeForm_4 (by decide) ?_
  refine jw_istore_n hX [(2, .int (0 : Int32)), (0, .ref v0), (1, .ref v1)] dX5_writeForm_5 rfl (by decide) rfl ?_
  refine jw_sub [1, 2, 0] [(0, .ref v0), (1, .ref v1), (2, .int (0 : Int32))] rfl ?_
  obtain ⟨wx6, hl6, h⟩ := bL1_some h
  refine sX5_writeForm_L6 hX hT hGX hret (o := wx6) (fun q0 e9 => ?_) n _ _ _ _ hl6
  cases e9
  exact hret _ _ _ _ _ (by decide) (by decide) dX5_writeForm_79 (hro _ (Option.some.inj h).symm)
set_option maxRecDepth 100000 in
set_option maxHeartbeats 4000000 in
theorem kX5_writeForm {l : Launch} {D : va_G} {tys : List (ClassId × FieldType)} {cI cZ cO cJ : ClassId} {gs : JP} {n : Nat} {S : PS} {v0 : Nat} {v1 : Nat} {w1 : PS} (hT : tys = jTy cI cZ cO cJ) (h : fX5_writeForm n S v0 v1 = some w1) : CC l (GP gs) D tys yX5_writeForm wsX5_writeForm rmX5_writeForm [.ref v0, .ref v1] (pW cI cO S) (fun ov w2 => ov = none ∧ w2 = (pW cI cO w1)) := by
  refine CC_of (cc := cX5_writeForm) (maxL := 4) (ret := none) (by decide) rfl (Nat.le_of_ble_eq_true rfl) ?_
  intro X hD hL hT0 hGX hX rI rZ rV rA
  exact sX5_writeForm (post := fun ov w2 => ov = none ∧ w2 = (pW cI cO w1)) hX (hT0.trans hT) hGX (fun cells slots w9 pc lv => rV cells slots w9 pc lv rfl) (o := w1) (fun w9 e9 => by cases e9; exact ⟨rfl, rfl⟩) h
/-! X1_timesAt -/
abbrev rmX1_timesAt : Room := { frames := 1, cells := 0, slots := 0, locals := 21 }
theorem hdX1_timesAt : yX1_timesAt.cls = RX1 ∧ yX1_timesAt.cls ≠ "java/lang/invoke/MethodHandle" ∧ yX1_timesAt.cls ≠ "java/lang/invoke/VarHandle" ∧ (parseMethodDescriptor yX1_timesAt.desc).map (fun d => d.parameters.length) = some 1 := by decide +kernel
theorem lkX1_timesAt_20 : Cond.fieldLink RX1 20 RX1 (TX1 1).2.1 (TX1 1).2.2.1 ∈ wsX1_timesAt := by decide +kernel
theorem inX1_timesAt_2 : ∀ w ∈ wsX10, w ∈ wsX1_timesAt := fun _ h => List.mem_cons_of_mem _ (List.mem_append_left _ (List.mem_append_right _ h))
def fX1_timesAt_J63 (n : Nat) (rec : PS → Nat → Int32 → Int32 → Int32 → Option (Int32)) (S : PS) (v0 : Nat) (v2 : Int32) (v3 : Int32) (v4 : Int32) : Option (Int32) := chk (okP S v0 2) (bP (sR S 21 v0) (fun q64 => chk (okP S q64 5) (bP (fX4_at S q64 v4) (fun r69 => (if r69 = (41 : Int32) then chk (okP S v0 2) (bP (sR S 21 v0) (fun q79 => chk (okP S q79 5) (bP (fX4_at S q79 (v4 + (2 : Int32))) (fun r86 => bnd ((v2 * (r86 - (48 : Int32)))) (fun y93 => rec S v0 y93 v3 (v4 + (1 : Int32))))))) else rec S v0 v2 v3 (v4 + (1 : Int32)))))))
def fX1_timesAt_L7 (n : Nat) : Nat → PS → Nat → Int32 → Int32 → Int32 → Option (Int32)
  | 0, _, _, _, _, _ => none
  | k + 1, S, v0, v2, v3, v4 => chk (okP S v0 2) (bP (sR S 21 v0) (fun q10 => chk (okP S q10 5) (bP (fX4_size S q10) (fun r13 => (if r13 ≤ v4 then some v2 else chk (okP S v0 2) (bP (sR S 21 v0) (fun q20 => chk (okP S q20 5) (bP (fX4_at S q20 v4) (fun r25 => (if r25 = (40 : Int32) then fX1_timesAt_L7 n k S v0 v2 (v3 + (1 : Int32)) (v4 + (1 : Int32)) else chk (okP S v0 2) (bP (sR S 21 v0) (fun q40 => chk (okP S q40 5) (bP (fX4_at S q40 v4) (fun r45 => (if r45 = (41 : Int32) then (if v3 ≤ 0 then fX1_timesAt_J63 n (fX1_timesAt_L7 n k) S v0 v2 v3 v4 else fX1_timesAt_L7 n k S v0 v2 (v3 + (-1 : Int32)) (v4 + (1 : Int32))) else fX1_timesAt_J63 n (fX1_timesAt_L7 n k) S v0 v2 v3 v4)))))))))))))))
def fX1_timesAt (n : Nat) (S : PS) (v0 : Nat) (v1 : Int32) : Option Int32 := bL1 (fX1_timesAt_L7 n n S v0 (1 : Int32) (0 : Int32) v1) (fun x2_7 => some x2_7)
set_option maxRecDepth 100000 in
set_option maxHeartbeats 4000000 in
theorem sX1_timesAt_J63 {X : JX} {cI cZ cO cJ : ClassId} {gs : JP} {n : Nat} {S : PS} {post : Option Value → va_W → Prop} (hX : jOK X cX1_timesAt 5 wsX1_timesAt RX1 rmX1_timesAt) (hT : jT X = jTy cI cZ cO cJ) (hGX : jG X (GP gs)) (hret : jRI X cX1_timesAt rmX1_timesAt post) {o : (Int32)} {rec : PS → Nat → Int32 → Int32 → Int32 → Option (Int32)} {v0 : Nat} {v2 : Int32} {v3 : Int32} {v4 : Int32} (hrec : ∀ (v0 : Nat) (v2 : Int32) (v3 : Int32) (v4 : Int32), rec S v0 v2 v3 v4 = some o → JW X 0 0 (pW cI cO S) 7 [(0, .ref v0), (2, .int v2), (3, .int v3), (4, .int v4)] [])  (hex : ∀ (x2 : Int32), o = x2 → JW X 0 0 (pW cI cO S) 100 [(2, .int x2)] [])  (h : fX1_timesAt_J63 n rec S v0 v2 v3 v4 = some o) : JW X 0 0 (pW cI cO S) 63 [(0, .ref v0), (2, .int v2), (3, .int v3), (4, .int v4)] [] := by
  unfold fX1_timesAt_J63 at h
  refine jw_aload_n hX dX1_timesAt_63 rfl 0 rfl ?_
  obtain ⟨ho64_1, h⟩ := chk_some h
  obtain ⟨q64, hr64, h⟩ := bP_some h
  refine jw_pgetR hX hT 2 1 rfl (by decide) (by decide) rfl inX1_timesAt_2 rfl lkX1_timesAt_20 ho64_1 hr64 dX1_timesAt_64 ?_
  refine jw_iload hX dX1_timesAt_67 3 rfl ?_
  obtain ⟨ho69_5, h⟩ := chk_some h
  obtain ⟨r69, hc69, h⟩ := bP_some h
  refine jw_pVi (As := [.int v4]) hX (GP_ok gs) hGX 1 (kX4_at hT hc69) gX1_timesAt_X4_at rfl hdX4_at ⟨by decide, by decide⟩ 5 rfl (by decide) ho69_5 rfl (Nat.le_of_ble_eq_true rfl) dX1_timesAt_69 rfl rfl ⟨by decide, by decide⟩ ?_
  refine jw_bipush (v := (41 : Int32)) hX dX1_timesAt_72 (by decide) ?_
  refine jw_icmp_ne (tgt := 94) hX dX1_timesAt_74 (by decide) (fun hc => ?_) (fun hc => ?_)
  · rw [if_neg hc] at h
    refine jw_iinc (v := (v4 + (1 : Int32))) hX [(4, .int (v4 + (1 : Int32))), (0, .ref v0), (2, .int v2), (3, .int v3)] dX1_timesAt_94 3 rfl (by first | rfl | (congr 1; decide)) (by decide) rfl ?_
    refine jw_goto (tgt := 7) hX dX1_timesAt_97 (by decide) ?_
    refine jw_sub [1, 2, 3, 0] [(0, .ref v0), (2, .int v2), (3, .int v3), (4, .int (v4 + (1 : Int32)))] rfl ?_
    exact hrec _ _ _ _ h
  · rw [if_pos hc] at h
    refine jw_iload_n hX dX1_timesAt_77 rfl 1 rfl ?_
    refine jw_aload_n hX dX1_timesAt_78 rfl 0 rfl ?_
    obtain ⟨ho79_2, h⟩ := chk_some h
    obtain ⟨q79, hr79, h⟩ := bP_some h
    refine jw_pgetR hX hT 2 1 rfl (by decide) (by decide) rfl inX1_timesAt_2 rfl lkX1_timesAt_20 ho79_2 hr79 dX1_timesAt_79 ?_
    refine jw_iload hX dX1_timesAt_82 3 rfl ?_
    refine jw_iconst (v := (2 : Int32)) hX dX1_timesAt_84 (by decide) ?_
    refine jw_iadd hX dX1_timesAt_85 ?_
    obtain ⟨ho86_8, h⟩ := chk_some h
    obtain ⟨r86, hc86, h⟩ := bP_some h
    refine jw_pVi (As := [.int (v4 + (2 : Int32))]) hX (GP_ok gs) hGX 1 (kX4_at hT hc86) gX1_timesAt_X4_at rfl hdX4_at ⟨by decide, by decide⟩ 5 rfl (by decide) ho86_8 rfl (Nat.le_of_ble_eq_true rfl) dX1_timesAt_86 rfl rfl ⟨by decide, by decide⟩ ?_
    refine jw_bipush (v := (48 : Int32)) hX dX1_timesAt_89 (by decide) ?_
    refine jw_isub hX dX1_timesAt_91 ?_
    refine jw_imul hX dX1_timesAt_92 ?_
    refine jw_topi (fun y93 e93 => ?_)
    replace h := bnd_some h y93 e93
    clear e93
    refine jw_istore_n hX [(2, .int y93), (0, .ref v0), (3, .int v3), (4, .int v4)] dX1_timesAt_93 rfl (by decide) rfl ?_
    refine jw_iinc (v := (v4 + (1 : Int32))) hX [(4, .int (v4 + (1 : Int32))), (2, .int y93), (0, .ref v0), (3, .int v3)] dX1_timesAt_94 3 rfl (by first | rfl | (congr 1; decide)) (by decide) rfl ?_
    refine jw_goto (tgt := 7) hX dX1_timesAt_97 (by decide) ?_
    refine jw_sub [2, 1, 3, 0] [(0, .ref v0), (2, .int y93), (3, .int v3), (4, .int (v4 + (1 : Int32)))] rfl ?_
    exact hrec _ _ _ _ h
set_option maxRecDepth 100000 in
set_option maxHeartbeats 4000000 in
theorem sX1_timesAt_L7 {X : JX} {cI cZ cO cJ : ClassId} {gs : JP} {n : Nat} {S : PS} {post : Option Value → va_W → Prop} (hX : jOK X cX1_timesAt 5 wsX1_timesAt RX1 rmX1_timesAt) (hT : jT X = jTy cI cZ cO cJ) (hGX : jG X (GP gs)) (hret : jRI X cX1_timesAt rmX1_timesAt post) {o : (Int32)} (hex : ∀ (x2 : Int32), o = x2 → JW X 0 0 (pW cI cO S) 100 [(2, .int x2)] [])  : ∀ (k : Nat) (v0 : Nat) (v2 : Int32) (v3 : Int32) (v4 : Int32), fX1_timesAt_L7 n k S v0 v2 v3 v4 = some o → JW X 0 0 (pW cI cO S) 7 [(0, .ref v0), (2, .int v2), (3, .int v3), (4, .int v4)] [] := by
  intro k
  induction k with
  | zero => intro v0 v2 v3 v4 h; cases h
  | succ k hrec0 =>
    intro v0 v2 v3 v4 h
    unfold fX1_timesAt_L7 at h
    refine jw_iload hX dX1_timesAt_7 3 rfl ?_
    refine jw_aload_n hX dX1_timesAt_9 rfl 0 rfl ?_
    obtain ⟨ho10_2, h⟩ := chk_some h
    obtain ⟨q10, hr10, h⟩ := bP_some h
    refine jw_pgetR hX hT 2 1 rfl (by decide) (by decide) rfl inX1_timesAt_2 rfl lkX1_timesAt_20 ho10_2 hr10 dX1_timesAt_10 ?_
    obtain ⟨ho13_5, h⟩ := chk_some h
    obtain ⟨r13, hc13, h⟩ := bP_some h
    refine jw_pVi (As := []) hX (GP_ok gs) hGX 0 (kX4_size hT hc13) gX1_timesAt_X4_size rfl hdX4_size ⟨by decide, by decide⟩ 5 rfl (by decide) ho13_5 rfl (Nat.le_of_ble_eq_true rfl) dX1_timesAt_13 rfl rfl ⟨by decide, by decide⟩ ?_
    refine jw_icmp_ge (tgt := 100) hX dX1_timesAt_16 (by decide) (fun hc => ?_) (fun hc => ?_)
    · rw [if_pos hc] at h
      refine jw_sub [1] [(2, .int v2)] rfl ?_
      exact hex _ (Option.some.inj h).symm
    · rw [if_neg hc] at h
      refine jw_aload_n hX dX1_timesAt_19 rfl 0 rfl ?_
      obtain ⟨ho20_1, h⟩ := chk_some h
      obtain ⟨q20, hr20, h⟩ := bP_some h
      refine jw_pgetR hX hT 2 1 rfl (by decide) (by decide) rfl inX1_timesAt_2 rfl lkX1_timesAt_20 ho20_1 hr20 dX1_timesAt_20 ?_
      refine jw_iload hX dX1_timesAt_23 3 rfl ?_
      obtain ⟨ho25_5, h⟩ := chk_some h
      obtain ⟨r25, hc25, h⟩ := bP_some h
      refine jw_pVi (As := [.int v4]) hX (GP_ok gs) hGX 1 (kX4_at hT hc25) gX1_timesAt_X4_at rfl hdX4_at ⟨by decide, by decide⟩ 5 rfl (by decide) ho25_5 rfl (Nat.le_of_ble_eq_true rfl) dX1_timesAt_25 rfl rfl ⟨by decide, by decide⟩ ?_
      refine jw_bipush (v := (40 : Int32)) hX dX1_timesAt_28 (by decide) ?_
      refine jw_icmp_ne (tgt := 39) hX dX1_timesAt_30 (by decide) (fun hc => ?_) (fun hc => ?_)
      · rw [if_neg hc] at h
        refine jw_aload_n hX dX1_timesAt_39 rfl 0 rfl ?_
        obtain ⟨ho40_1, h⟩ := chk_some h
        obtain ⟨q40, hr40, h⟩ := bP_some h
        refine jw_pgetR hX hT 2 1 rfl (by decide) (by decide) rfl inX1_timesAt_2 rfl lkX1_timesAt_20 ho40_1 hr40 dX1_timesAt_40 ?_
        refine jw_iload hX dX1_timesAt_43 3 rfl ?_
        obtain ⟨ho45_5, h⟩ := chk_some h
        obtain ⟨r45, hc45, h⟩ := bP_some h
        refine jw_pVi (As := [.int v4]) hX (GP_ok gs) hGX 1 (kX4_at hT hc45) gX1_timesAt_X4_at rfl hdX4_at ⟨by decide, by decide⟩ 5 rfl (by decide) ho45_5 rfl (Nat.le_of_ble_eq_true rfl) dX1_timesAt_45 rfl rfl ⟨by decide, by decide⟩ ?_
        refine jw_bipush (v := (41 : Int32)) hX dX1_timesAt_48 (by decide) ?_
        refine jw_icmp_ne (tgt := 63) hX dX1_timesAt_50 (by decide) (fun hc => ?_) (fun hc => ?_)
        · rw [if_neg hc] at h
          exact sX1_timesAt_J63 hX hT hGX hret hrec0 hex h
        · rw [if_pos hc] at h
          refine jw_iload_n hX dX1_timesAt_53 rfl 2 rfl ?_
          refine jw_if_le (tgt := 63) hX dX1_timesAt_54 (by decide) (fun hc => ?_) (fun hc => ?_)
          · rw [if_pos hc] at h
            exact sX1_timesAt_J63 hX hT hGX hret hrec0 hex h
          · rw [if_neg hc] at h
            refine jw_iinc (v := (v3 + (-1 : Int32))) hX [(3, .int (v3 + (-1 : Int32))), (0, .ref v0), (2, .int v2), (4, .int v4)] dX1_timesAt_57 2 rfl (by first | rfl | (congr 1; decide)) (by decide) rfl ?_
            refine jw_goto (tgt := 94) hX dX1_timesAt_60 (by decide) ?_
            refine jw_iinc (v := (v4 + (1 : Int32))) hX [(4, .int (v4 + (1 : Int32))), (3, .int (v3 + (-1 : Int32))), (0, .ref v0), (2, .int v2)] dX1_timesAt_94 3 rfl (by first | rfl | (congr 1; decide)) (by decide) rfl ?_
            refine jw_goto (tgt := 7) hX dX1_timesAt_97 (by decide) ?_
            refine jw_sub [2, 3, 1, 0] [(0, .ref v0), (2, .int v2), (3, .int (v3 + (-1 : Int32))), (4, .int (v4 + (1 : Int32)))] rfl ?_
            exact hrec0 _ _ _ _ h
      · rw [if_pos hc] at h
        refine jw_iinc (v := (v3 + (1 : Int32))) hX [(3, .int (v3 + (1 : Int32))), (0, .ref v0), (2, .int v2), (4, .int v4)] dX1_timesAt_33 2 rfl (by first | rfl | (congr 1; decide)) (by decide) rfl ?_
        refine jw_goto (tgt := 94) hX dX1_timesAt_36 (by decide) ?_
        refine jw_iinc (v := (v4 + (1 : Int32))) hX [(4, .int (v4 + (1 : Int32))), (3, .int (v3 + (1 : Int32))), (0, .ref v0), (2, .int v2)] dX1_timesAt_94 3 rfl (by first | rfl | (congr 1; decide)) (by decide) rfl ?_
        refine jw_goto (tgt := 7) hX dX1_timesAt_97 (by decide) ?_
        refine jw_sub [2, 3, 1, 0] [(0, .ref v0), (2, .int v2), (3, .int (v3 + (1 : Int32))), (4, .int (v4 + (1 : Int32)))] rfl ?_
        exact hrec0 _ _ _ _ h
set_option maxRecDepth 100000 in
set_option maxHeartbeats 4000000 in
theorem sX1_timesAt {X : JX} {cI cZ cO cJ : ClassId} {gs : JP} {n : Nat} {S : PS} {post : Option Value → va_W → Prop} (hX : jOK X cX1_timesAt 5 wsX1_timesAt RX1 rmX1_timesAt) (hT : jT X = jTy cI cZ cO cJ) (hGX : jG X (GP gs)) (hret : jRI X cX1_timesAt rmX1_timesAt post) {o : Int32} (hro : ∀ (v9 : Int32), o = v9 → post (some (.int v9)) (pW cI cO S))  {v0 : Nat} {v1 : Int32} (h : fX1_timesAt n S v0 v1 = some o) : JW X 0 0 (pW cI cO S) 0 [(0, .ref v0), (1, .int v1)] [] := by
  unfold fX1_timesAt at h
  refine jw_iconst (v := (1 : Int32)) hX dX1_timesAt_0 (by decide) ?_
  refine jw_istore_n hX [(2, .int (1 : Int32)), (0, .ref v0), (1, .int v1)] dX1_timesAt_1 rfl (by decide) rfl ?_
  refine jw_iconst (v := (0 : Int32)) hX dX1_timesAt_2 (by decide) ?_
  refine jw_istore_n hX [(3, .int (0 : Int32)), (2, .int (1 : Int32)), (0, .ref v0), (1, .int v1)] dX1_timesAt_3 rfl (by decide) rfl ?_
  refine jw_iload_n hX dX1_timesAt_4 rfl 3 rfl ?_
  refine jw_istore hX [(4, .int v1), (3, .int (0 : Int32)), (2, .int (1 : Int32)), (0, .ref v0), (1, .int v1)] dX1_timesAt_5 (by decide) rfl ?_
  refine jw_sub [3, 2, 1, 0] [(0, .ref v0), (2, .int (1 : Int32)), (3, .int (0 : Int32)), (4, .int v1)] rfl ?_
  obtain ⟨x2_7, hl7, h⟩ := bL1_some h
  refine sX1_timesAt_L7 hX hT hGX hret (o := x2_7) (fun q0 e9 => ?_) n _ _ _ _ hl7
  cases e9
  refine jw_iload_n hX dX1_timesAt_100 rfl 0 rfl ?_
  exact hret _ _ _ _ _ _ (by decide) (by decide) dX1_timesAt_101 (hro _ (Option.some.inj h).symm)
set_option maxRecDepth 100000 in
set_option maxHeartbeats 4000000 in
theorem kX1_timesAt {l : Launch} {D : va_G} {tys : List (ClassId × FieldType)} {cI cZ cO cJ : ClassId} {gs : JP} {n : Nat} {S : PS} {v0 : Nat} {v1 : Int32} {r : Int32} (hT : tys = jTy cI cZ cO cJ) (h : fX1_timesAt n S v0 v1 = some r) : CC l (GP gs) D tys yX1_timesAt wsX1_timesAt rmX1_timesAt [.ref v0, .int v1] (pW cI cO S) (fun ov w2 => ov = some (.int r) ∧ w2 = (pW cI cO S)) := by
  refine CC_of (cc := cX1_timesAt) (maxL := 5) (ret := (some .int)) (by decide) rfl (Nat.le_of_ble_eq_true rfl) ?_
  intro X hD hL hT0 hGX hX rI rZ rV rA
  exact sX1_timesAt (post := fun ov w2 => ov = some (.int r) ∧ w2 = (pW cI cO S)) hX (hT0.trans hT) hGX (fun cells slots w9 pc lv v => rI cells slots w9 pc lv v rfl) (o := r) (fun v9 e9 => by cases e9; exact ⟨rfl, rfl⟩) h
/-! X1_numberAt -/
abbrev rmX1_numberAt : Room := { frames := 1, cells := 0, slots := 0, locals := 21 }
theorem hdX1_numberAt : yX1_numberAt.cls = RX1 ∧ yX1_numberAt.cls ≠ "java/lang/invoke/MethodHandle" ∧ yX1_numberAt.cls ≠ "java/lang/invoke/VarHandle" ∧ (parseMethodDescriptor yX1_numberAt.desc).map (fun d => d.parameters.length) = some 1 := by decide +kernel
theorem lkX1_numberAt_20 : Cond.fieldLink RX1 20 RX1 (TX1 1).2.1 (TX1 1).2.2.1 ∈ wsX1_numberAt := by decide +kernel
theorem inX1_numberAt_2 : ∀ w ∈ wsX10, w ∈ wsX1_numberAt := fun _ h => List.mem_cons_of_mem _ (List.mem_append_left _ (List.mem_append_right _ h))
theorem n1X1_numberAt_X6_isDigit : Cond.static yX6_isDigit ∈ wsX1_numberAt := by decide +kernel
theorem n2X1_numberAt_X6_isDigit : Cond.initialized yX6_isDigit.cls ∈ wsX1_numberAt := by decide +kernel
def fX1_numberAt_L6 (n : Nat) : Nat → PS → Nat → Int32 → Int32 → Int32 → Option (Int32)
  | 0, _, _, _, _, _ => none
  | k + 1, S, v0, v1, v2, v3 => chk (okP S v0 2) (bP (sR S 21 v0) (fun q8 => chk (okP S q8 5) (bP (fX4_size S q8) (fun r11 => (if r11 ≤ v3 then some v2 else chk (okP S v0 2) (bP (sR S 21 v0) (fun q18 => chk (okP S q18 5) (bP (fX4_at S q18 v3) (fun r22 => bP (fX6_isDigit r22) (fun r25 => (if r25 = 0 then some v2 else chk (okP S v0 2) (bP (sR S 21 v0) (fun q36 => chk (okP S q36 5) (bP (fX4_at S q36 v3) (fun r40 => bnd (((((10 : Int32) * v2) + r40) - (48 : Int32))) (fun y47 => fX1_numberAt_L6 n k S v0 v1 y47 (v3 + (1 : Int32))))))))))))))))))
def fX1_numberAt (n : Nat) (S : PS) (v0 : Nat) (v1 : Int32) : Option Int32 := bnd ((v1 + (2 : Int32))) (fun y5 => bL1 (fX1_numberAt_L6 n n S v0 v1 (0 : Int32) y5) (fun x2_6 => chk (okP S v0 2) (bP (sR S 21 v0) (fun q55 => chk (okP S q55 5) (bP (fX4_at S q55 (v1 + (1 : Int32))) (fun r61 => (if r61 = (45 : Int32) then some (-x2_6) else some x2_6)))))))
set_option maxRecDepth 100000 in
set_option maxHeartbeats 4000000 in
theorem sX1_numberAt_L6 {X : JX} {cI cZ cO cJ : ClassId} {gs : JP} {n : Nat} {S : PS} {post : Option Value → va_W → Prop} (hX : jOK X cX1_numberAt 4 wsX1_numberAt RX1 rmX1_numberAt) (hT : jT X = jTy cI cZ cO cJ) (hGX : jG X (GP gs)) (hret : jRI X cX1_numberAt rmX1_numberAt post) {o : (Int32)} {v0 : Nat} {v1 : Int32} (hex : ∀ (x2 : Int32), o = x2 → JW X 0 0 (pW cI cO S) 54 [(0, .ref v0), (1, .int v1), (2, .int x2)] [])  : ∀ (k : Nat) (v2 : Int32) (v3 : Int32), fX1_numberAt_L6 n k S v0 v1 v2 v3 = some o → JW X 0 0 (pW cI cO S) 6 [(0, .ref v0), (1, .int v1), (2, .int v2), (3, .int v3)] [] := by
  intro k
  induction k with
  | zero => intro v2 v3 h; cases h
  | succ k hrec0 =>
    intro v2 v3 h
    unfold fX1_numberAt_L6 at h
    refine jw_iload_n hX dX1_numberAt_6 rfl 3 rfl ?_
    refine jw_aload_n hX dX1_numberAt_7 rfl 0 rfl ?_
    obtain ⟨ho8_2, h⟩ := chk_some h
    obtain ⟨q8, hr8, h⟩ := bP_some h
    refine jw_pgetR hX hT 2 1 rfl (by decide) (by decide) rfl inX1_numberAt_2 rfl lkX1_numberAt_20 ho8_2 hr8 dX1_numberAt_8 ?_
    obtain ⟨ho11_5, h⟩ := chk_some h
    obtain ⟨r11, hc11, h⟩ := bP_some h
    refine jw_pVi (As := []) hX (GP_ok gs) hGX 0 (kX4_size hT hc11) gX1_numberAt_X4_size rfl hdX4_size ⟨by decide, by decide⟩ 5 rfl (by decide) ho11_5 rfl (Nat.le_of_ble_eq_true rfl) dX1_numberAt_11 rfl rfl ⟨by decide, by decide⟩ ?_
    refine jw_icmp_ge (tgt := 54) hX dX1_numberAt_14 (by decide) (fun hc => ?_) (fun hc => ?_)
    · rw [if_pos hc] at h
      refine jw_sub [0, 1, 2] [(0, .ref v0), (1, .int v1), (2, .int v2)] rfl ?_
      exact hex _ (Option.some.inj h).symm
    · rw [if_neg hc] at h
      refine jw_aload_n hX dX1_numberAt_17 rfl 0 rfl ?_
      obtain ⟨ho18_1, h⟩ := chk_some h
      obtain ⟨q18, hr18, h⟩ := bP_some h
      refine jw_pgetR hX hT 2 1 rfl (by decide) (by decide) rfl inX1_numberAt_2 rfl lkX1_numberAt_20 ho18_1 hr18 dX1_numberAt_18 ?_
      refine jw_iload_n hX dX1_numberAt_21 rfl 3 rfl ?_
      obtain ⟨ho22_5, h⟩ := chk_some h
      obtain ⟨r22, hc22, h⟩ := bP_some h
      refine jw_pVi (As := [.int v3]) hX (GP_ok gs) hGX 1 (kX4_at hT hc22) gX1_numberAt_X4_at rfl hdX4_at ⟨by decide, by decide⟩ 5 rfl (by decide) ho22_5 rfl (Nat.le_of_ble_eq_true rfl) dX1_numberAt_22 rfl rfl ⟨by decide, by decide⟩ ?_
      obtain ⟨r25, hc25, h⟩ := bP_some h
      refine jw_pSNi (As := [.int r22]) hX (GP_ok gs) hGX 1 (kX6_isDigit hT hc25) gX1_numberAt_X6_isDigit_n76 rfl (gp_nm hGX (w := .methodLinkNest RX1 76 yX6_isDigit "Postlint") (by decide +kernel)) (Or.inl n1X1_numberAt_X6_isDigit) (Or.inl n2X1_numberAt_X6_isDigit) hdX6_isDigit ⟨by decide, by decide⟩ rfl (Nat.le_of_ble_eq_true rfl) dX1_numberAt_25 rfl rfl ⟨by decide, by decide⟩ ?_
      refine jw_if_eq (tgt := 54) hX dX1_numberAt_28 (by decide) (fun hc => ?_) (fun hc => ?_)
      · rw [if_pos hc] at h
        refine jw_sub [0, 1, 2] [(0, .ref v0), (1, .int v1), (2, .int v2)] rfl ?_
        exact hex _ (Option.some.inj h).symm
      · rw [if_neg hc] at h
        refine jw_bipush (v := (10 : Int32)) hX dX1_numberAt_31 (by decide) ?_
        refine jw_iload_n hX dX1_numberAt_33 rfl 2 rfl ?_
        refine jw_imul hX dX1_numberAt_34 ?_
        refine jw_aload_n hX dX1_numberAt_35 rfl 0 rfl ?_
        obtain ⟨ho36_4, h⟩ := chk_some h
        obtain ⟨q36, hr36, h⟩ := bP_some h
        refine jw_pgetR hX hT 2 1 rfl (by decide) (by decide) rfl inX1_numberAt_2 rfl lkX1_numberAt_20 ho36_4 hr36 dX1_numberAt_36 ?_
        refine jw_iload_n hX dX1_numberAt_39 rfl 3 rfl ?_
        obtain ⟨ho40_8, h⟩ := chk_some h
        obtain ⟨r40, hc40, h⟩ := bP_some h
        refine jw_pVi (As := [.int v3]) hX (GP_ok gs) hGX 1 (kX4_at hT hc40) gX1_numberAt_X4_at rfl hdX4_at ⟨by decide, by decide⟩ 5 rfl (by decide) ho40_8 rfl (Nat.le_of_ble_eq_true rfl) dX1_numberAt_40 rfl rfl ⟨by decide, by decide⟩ ?_
        refine jw_iadd hX dX1_numberAt_43 ?_
        refine jw_bipush (v := (48 : Int32)) hX dX1_numberAt_44 (by decide) ?_
        refine jw_isub hX dX1_numberAt_46 ?_
        refine jw_topi (fun y47 e47 => ?_)
        replace h := bnd_some h y47 e47
        clear e47
        refine jw_istore_n hX [(2, .int y47), (0, .ref v0), (1, .int v1), (3, .int v3)] dX1_numberAt_47 rfl (by decide) rfl ?_
        refine jw_iinc (v := (v3 + (1 : Int32))) hX [(3, .int (v3 + (1 : Int32))), (2, .int y47), (0, .ref v0), (1, .int v1)] dX1_numberAt_48 3 rfl (by first | rfl | (congr 1; decide)) (by decide) rfl ?_
        refine jw_goto (tgt := 6) hX dX1_numberAt_51 (by decide) ?_
        refine jw_sub [2, 3, 1, 0] [(0, .ref v0), (1, .int v1), (2, .int y47), (3, .int (v3 + (1 : Int32)))] rfl ?_
        exact hrec0 _ _ h
set_option maxRecDepth 100000 in
set_option maxHeartbeats 4000000 in
theorem sX1_numberAt {X : JX} {cI cZ cO cJ : ClassId} {gs : JP} {n : Nat} {S : PS} {post : Option Value → va_W → Prop} (hX : jOK X cX1_numberAt 4 wsX1_numberAt RX1 rmX1_numberAt) (hT : jT X = jTy cI cZ cO cJ) (hGX : jG X (GP gs)) (hret : jRI X cX1_numberAt rmX1_numberAt post) {o : Int32} (hro : ∀ (v9 : Int32), o = v9 → post (some (.int v9)) (pW cI cO S))  {v0 : Nat} {v1 : Int32} (h : fX1_numberAt n S v0 v1 = some o) : JW X 0 0 (pW cI cO S) 0 [(0, .ref v0), (1, .int v1)] [] := by
  unfold fX1_numberAt at h
  refine jw_iconst (v := (0 : Int32)) hX dX1_numberAt_0 (by decide) ?_
  refine jw_istore_n hX [(2, .int (0 : Int32)), (0, .ref v0), (1, .int v1)] dX1_numberAt_1 rfl (by decide) rfl ?_
  refine jw_iload_n hX dX1_numberAt_2 rfl 2 rfl ?_
  refine jw_iconst (v := (2 : Int32)) hX dX1_numberAt_3 (by decide) ?_
  refine jw_iadd hX dX1_numberAt_4 ?_
  refine jw_topi (fun y5 e5 => ?_)
  replace h := bnd_some h y5 e5
  clear e5
  refine jw_istore_n hX [(3, .int y5), (2, .int (0 : Int32)), (0, .ref v0), (1, .int v1)] dX1_numberAt_5 rfl (by decide) rfl ?_
  refine jw_sub [2, 3, 1, 0] [(0, .ref v0), (1, .int v1), (2, .int (0 : Int32)), (3, .int y5)] rfl ?_
  obtain ⟨x2_6, hl6, h⟩ := bL1_some h
  refine sX1_numberAt_L6 hX hT hGX hret (o := x2_6) (fun q0 e9 => ?_) n _ _ hl6
  cases e9
  refine jw_aload_n hX dX1_numberAt_54 rfl 0 rfl ?_
  obtain ⟨ho55_1, h⟩ := chk_some h
  obtain ⟨q55, hr55, h⟩ := bP_some h
  refine jw_pgetR hX hT 2 1 rfl (by decide) (by decide) rfl inX1_numberAt_2 rfl lkX1_numberAt_20 ho55_1 hr55 dX1_numberAt_55 ?_
  refine jw_iload_n hX dX1_numberAt_58 rfl 1 rfl ?_
  refine jw_iconst (v := (1 : Int32)) hX dX1_numberAt_59 (by decide) ?_
  refine jw_iadd hX dX1_numberAt_60 ?_
  obtain ⟨ho61_7, h⟩ := chk_some h
  obtain ⟨r61, hc61, h⟩ := bP_some h
  refine jw_pVi (As := [.int (v1 + (1 : Int32))]) hX (GP_ok gs) hGX 1 (kX4_at hT hc61) gX1_numberAt_X4_at rfl hdX4_at ⟨by decide, by decide⟩ 5 rfl (by decide) ho61_7 rfl (Nat.le_of_ble_eq_true rfl) dX1_numberAt_61 rfl rfl ⟨by decide, by decide⟩ ?_
  refine jw_bipush (v := (45 : Int32)) hX dX1_numberAt_64 (by decide) ?_
  refine jw_icmp_ne (tgt := 74) hX dX1_numberAt_66 (by decide) (fun hc => ?_) (fun hc => ?_)
  · rw [if_neg hc] at h
    refine jw_iload_n hX dX1_numberAt_74 rfl 2 rfl ?_
    exact hret _ _ _ _ _ _ (by decide) (by decide) dX1_numberAt_75 (hro _ (Option.some.inj h).symm)
  · rw [if_pos hc] at h
    refine jw_iload_n hX dX1_numberAt_69 rfl 2 rfl ?_
    refine jw_ineg hX dX1_numberAt_70 ?_
    refine jw_goto (tgt := 75) hX dX1_numberAt_71 (by decide) ?_
    exact hret _ _ _ _ _ _ (by decide) (by decide) dX1_numberAt_75 (hro _ (Option.some.inj h).symm)
set_option maxRecDepth 100000 in
set_option maxHeartbeats 4000000 in
theorem kX1_numberAt {l : Launch} {D : va_G} {tys : List (ClassId × FieldType)} {cI cZ cO cJ : ClassId} {gs : JP} {n : Nat} {S : PS} {v0 : Nat} {v1 : Int32} {r : Int32} (hT : tys = jTy cI cZ cO cJ) (h : fX1_numberAt n S v0 v1 = some r) : CC l (GP gs) D tys yX1_numberAt wsX1_numberAt rmX1_numberAt [.ref v0, .int v1] (pW cI cO S) (fun ov w2 => ov = some (.int r) ∧ w2 = (pW cI cO S)) := by
  refine CC_of (cc := cX1_numberAt) (maxL := 4) (ret := (some .int)) (by decide) rfl (Nat.le_of_ble_eq_true rfl) ?_
  intro X hD hL hT0 hGX hX rI rZ rV rA
  exact sX1_numberAt (post := fun ov w2 => ov = some (.int r) ∧ w2 = (pW cI cO S)) hX (hT0.trans hT) hGX (fun cells slots w9 pc lv v => rI cells slots w9 pc lv v rfl) (o := r) (fun v9 e9 => by cases e9; exact ⟨rfl, rfl⟩) h
