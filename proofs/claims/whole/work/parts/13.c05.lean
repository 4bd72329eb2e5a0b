/-! X6_auditAt -/
abbrev rmX6_auditAt : Room := { frames := 6, cells := 1, slots := 6, locals := 90 }
theorem hdX6_auditAt : yX6_auditAt.cls = RX6 ∧ yX6_auditAt.cls ≠ "java/lang/invoke/MethodHandle" ∧ yX6_auditAt.cls ≠ "java/lang/invoke/VarHandle" ∧ (parseMethodDescriptor yX6_auditAt.desc).map (fun d => d.parameters.length) = some 1 := by decide +kernel
theorem tkX6_auditAt_IO : Cond.classLink "Postlint" 172 "java/lang/IndexOutOfBoundsException" ∈ wsX6_auditAt ∧ Cond.initialized "java/lang/IndexOutOfBoundsException" ∈ wsX6_auditAt := by decide +kernel
theorem taX6_auditAt_IO : ∀ w ∈ (vx_atS "Postlint" 176 "java/lang/IndexOutOfBoundsException" ["java/lang/RuntimeException", "java/lang/Exception"]).filter goodWord, w ∈ wsX6_auditAt := fun _ h => List.mem_cons_of_mem _ (List.mem_append_right _ h)
theorem lkX6_auditAt_38 : Cond.fieldLink RX6 38 RX6 (TX6 5).2.1 (TX6 5).2.2.1 ∈ wsX6_auditAt := by decide +kernel
theorem inX6_auditAt_6 : ∀ w ∈ wsX60, w ∈ wsX6_auditAt := fun _ h => List.mem_cons_of_mem _ (List.mem_append_left _ (List.mem_append_left _ (List.mem_append_right _ h)))
theorem ckX6_auditAt_151 : Cond.classLink RX6 151 RX0 ∈ wsX6_auditAt := by decide +kernel
def fX6_auditAt (S : PS) (v0 : Nat) (v1 : Int32) : Option (Nat ⊕ Nat) := (if v1 < 0 then some (Sum.inl 2) else chk (okP S v0 6) (bP (sR S 65 v0) (fun q6 => chk (okP S q6 0) (bP (fJx4a65c_size_8abf5 S q6) (fun r9 => (if v1 < r9 then chk (okP S v0 6) (bP (sR S 65 v0) (fun q26 => chk (okP S q26 0) (bP (fJx4a65c_get_915e3 S q26 v1) (fun r30 => chk (okP S r30 1) (some (Sum.inr r30)))))) else some (Sum.inl 2)))))))
set_option maxRecDepth 100000 in
set_option maxHeartbeats 4000000 in
theorem sX6_auditAt {X : JX} {cI cZ cO cJ : ClassId} {gs : JP} {S : PS} {post : Option Value → va_W → Prop} (hX : jOK X cX6_auditAt 2 wsX6_auditAt RX6 rmX6_auditAt) (hT : jT X = jTy cI cZ cO cJ) (hGX : jG X (GP gs)) (hret : jRA X cX6_auditAt rmX6_auditAt post) {w0 : va_W} {px : String → va_W → Prop} (hQ : jXQ X w0 rmX6_auditAt post px) {o : (Nat ⊕ Nat)} (hro : ∀ (v9 : Nat), o = .inr v9 → post (some (.ref v9)) (pW cI cO S)) (hrx : ∀ x9 : Nat, o = .inl x9 → px (exN x9) (pW cI cO S)) {v0 : Nat} {v1 : Int32} (h : fX6_auditAt S v0 v1 = some o) : JW X 0 0 (pW cI cO S) 0 [(0, .ref v0), (1, .int v1)] [] := by
  unfold fX6_auditAt at h
  refine jw_iload_n hX dX6_auditAt_0 rfl 1 rfl ?_
  refine jw_if_lt (tgt := 15) hX dX6_auditAt_1 (by decide) (fun hc => ?_) (fun hc => ?_)
  · rw [if_pos hc] at h
    exact jw_throwS (is := 202) (text := "there is no such audit") hX hGX hQ (by decide +kernel) (by decide +kernel) tkX6_auditAt_IO.1 tkX6_auditAt_IO.2 (by decide +kernel) taX6_auditAt_IO tbIO gNc_on tgIO dX6_auditAt_15 dX6_auditAt_18 dX6_auditAt_19 dX6_auditAt_21 dX6_auditAt_24 (Nat.le_of_ble_eq_true rfl) (Nat.le_of_ble_eq_true rfl) (Nat.le_of_ble_eq_true rfl) (Nat.le_of_ble_eq_true rfl) (hrx _ (Option.some.inj h).symm)
  · rw [if_neg hc] at h
    refine jw_iload_n hX dX6_auditAt_4 rfl 1 rfl ?_
    refine jw_aload_n hX dX6_auditAt_5 rfl 0 rfl ?_
    obtain ⟨ho6_2, h⟩ := chk_some h
    obtain ⟨q6, hr6, h⟩ := bP_some h
    refine jw_pgetR hX hT 6 5 rfl (by decide) (by decide) rfl inX6_auditAt_6 rfl lkX6_auditAt_38 ho6_2 hr6 dX6_auditAt_6 ?_
    obtain ⟨ho9_5, h⟩ := chk_some h
    obtain ⟨r9, hc9, h⟩ := bP_some h
    refine jw_pVi (As := []) hX (GP_ok gs) hGX 0 (kJx4a65c_size_8abf5 hT hc9) gX6_auditAt_Jx4a65c_size_8abf5 rfl hdJx4a65c_size_8abf5 ⟨by decide, by decide⟩ 0 rfl (by decide) ho9_5 rfl (Nat.le_of_ble_eq_true rfl) dX6_auditAt_9 rfl rfl ⟨by decide, by decide⟩ ?_
    refine jw_icmp_lt (tgt := 25) hX dX6_auditAt_12 (by decide) (fun hc => ?_) (fun hc => ?_)
    · rw [if_pos hc] at h
      refine jw_aload_n hX dX6_auditAt_25 rfl 0 rfl ?_
      obtain ⟨ho26_1, h⟩ := chk_some h
      obtain ⟨q26, hr26, h⟩ := bP_some h
      refine jw_pgetR hX hT 6 5 rfl (by decide) (by decide) rfl inX6_auditAt_6 rfl lkX6_auditAt_38 ho26_1 hr26 dX6_auditAt_26 ?_
      refine jw_iload_n hX dX6_auditAt_29 rfl 1 rfl ?_
      obtain ⟨ho30_5, h⟩ := chk_some h
      obtain ⟨r30, hc30, h⟩ := bP_some h
      refine jw_pVr (As := [.int v1]) hX (GP_ok gs) hGX 1 (kJx4a65c_get_915e3 hT hc30) gX6_auditAt_Jx4a65c_get_915e3 rfl hdJx4a65c_get_915e3 ⟨by decide, by decide⟩ 0 rfl (by decide) ho30_5 rfl (Nat.le_of_ble_eq_true rfl) dX6_auditAt_30 rfl rfl ⟨by decide, by decide⟩ ?_
      obtain ⟨ho33_8, h⟩ := chk_some h
      refine jw_pcast hX hT (k := 1) rfl (by decide) ho33_8 ckX6_auditAt_151 (gp_nc hGX (w := .castable RX0 RX0) (by decide +kernel)) dX6_auditAt_33 ?_
      exact hret _ _ _ _ _ _ (by decide) (by decide) dX6_auditAt_36 (hro _ (Option.some.inj h).symm)
    · rw [if_neg hc] at h
      exact jw_throwS (is := 202) (text := "there is no such audit") hX hGX hQ (by decide +kernel) (by decide +kernel) tkX6_auditAt_IO.1 tkX6_auditAt_IO.2 (by decide +kernel) taX6_auditAt_IO tbIO gNc_on tgIO dX6_auditAt_15 dX6_auditAt_18 dX6_auditAt_19 dX6_auditAt_21 dX6_auditAt_24 (Nat.le_of_ble_eq_true rfl) (Nat.le_of_ble_eq_true rfl) (Nat.le_of_ble_eq_true rfl) (Nat.le_of_ble_eq_true rfl) (hrx _ (Option.some.inj h).symm)
set_option maxRecDepth 100000 in
set_option maxHeartbeats 4000000 in
theorem kX6_auditAt {l : Launch} {D : va_G} {tys : List (ClassId × FieldType)} {cI cZ cO cJ : ClassId} {gs : JP} {S : PS} {v0 : Nat} {v1 : Int32} {r : Nat} (hl : l.stackTraces = false) (hT : tys = jTy cI cZ cO cJ) (h : fX6_auditAt S v0 v1 = some (.inr r)) : CX l (GP gs) D tys yX6_auditAt wsX6_auditAt rmX6_auditAt [.ref v0, .int v1] (pW cI cO S) (fun ov w2 => ov = some (.ref r) ∧ w2 = (pW cI cO S)) (fun _ _ => False) := by
  refine CX_of (cc := cX6_auditAt) (maxL := 2) (ret := (some (.object "Postlint$Audit"))) hl (by decide) rfl (Nat.le_of_ble_eq_true rfl) ?_
  intro X hD hL hT0 hGX hX hQ rI rZ rV rA
  exact sX6_auditAt (post := fun ov w2 => ov = some (.ref r) ∧ w2 = (pW cI cO S)) (px := fun _ _ => False) hX (hT0.trans hT) hGX (rA (Or.inl ⟨_, rfl⟩)) hQ (o := .inr r) (fun v9 e9 => by cases e9; exact ⟨rfl, rfl⟩) (fun x9 e9 => nomatch e9) h
set_option maxRecDepth 100000 in
set_option maxHeartbeats 4000000 in
theorem kxX6_auditAt {l : Launch} {D : va_G} {tys : List (ClassId × FieldType)} {cI cZ cO cJ : ClassId} {gs : JP} {S : PS} {v0 : Nat} {v1 : Int32} {x9 : Nat} (hl : l.stackTraces = false) (hT : tys = jTy cI cZ cO cJ) (h : fX6_auditAt S v0 v1 = some (.inl x9)) : CX l (GP gs) D tys yX6_auditAt wsX6_auditAt rmX6_auditAt [.ref v0, .int v1] (pW cI cO S) (fun _ _ => False) (fun E w2 => E = exN x9 ∧ w2 = (pW cI cO S)) := by
  refine CX_of (cc := cX6_auditAt) (maxL := 2) (ret := (some (.object "Postlint$Audit"))) hl (by decide) rfl (Nat.le_of_ble_eq_true rfl) ?_
  intro X hD hL hT0 hGX hX hQ rI rZ rV rA
  exact sX6_auditAt (post := fun _ _ => False) (px := fun E w2 => E = exN x9 ∧ w2 = (pW cI cO S)) hX (hT0.trans hT) hGX (rA (Or.inl ⟨_, rfl⟩)) hQ (o := .inl x9) (fun v9 e9 => nomatch e9) (fun x9 e9 => by cases e9; exact ⟨rfl, rfl⟩) h
/-! X6_chainUpTo -/
abbrev rmX6_chainUpTo : Room := { frames := 3, cells := 0, slots := 0, locals := 64 }
theorem hdX6_chainUpTo : yX6_chainUpTo.cls = RX6 ∧ yX6_chainUpTo.cls ≠ "java/lang/invoke/MethodHandle" ∧ yX6_chainUpTo.cls ≠ "java/lang/invoke/VarHandle" ∧ (parseMethodDescriptor yX6_chainUpTo.desc).map (fun d => d.parameters.length) = some 1 := by decide +kernel
theorem lkX6_chainUpTo_31 : Cond.fieldLink RX6 31 RX6 (TX6 3).2.1 (TX6 3).2.2.1 ∈ wsX6_chainUpTo := by decide +kernel
theorem inX6_chainUpTo_6 : ∀ w ∈ wsX60, w ∈ wsX6_chainUpTo := fun _ h => List.mem_cons_of_mem _ (List.mem_append_left _ (List.mem_append_left _ (List.mem_append_left _ (List.mem_append_right _ h))))
theorem ckX6_chainUpTo_82 : Cond.classLink RX6 82 RX1 ∈ wsX6_chainUpTo := by decide +kernel
theorem inX6_chainUpTo_2 : ∀ w ∈ wsX10, w ∈ wsX6_chainUpTo := fun _ h => List.mem_cons_of_mem _ (List.mem_append_left _ (List.mem_append_left _ (List.mem_append_right _ h)))
def fX6_chainUpTo_L4 (n : Nat) : Nat → PS → Nat → Int32 → Int32 → Int32 → Option (Int32)
  | 0, _, _, _, _, _ => none
  | k + 1, S, v0, v1, v2, v3 => (if v1 < v3 then some v2 else chk (okP S v0 6) (bP (sR S 63 v0) (fun q11 => chk (okP S q11 0) (bP (fJx4a65c_size_8abf5 S q11) (fun r14 => (if r14 ≤ v3 then some v2 else chk (okP S v0 6) (bP (sR S 63 v0) (fun q21 => chk (okP S q21 0) (bP (fJx4a65c_get_915e3 S q21 v3) (fun r25 => chk (okP S r25 2) (chk (okP S r25 2) (bP (sR S 21 r25) (fun q31 => chk (okP S q31 5) (bP (fX4_chainedTo n S q31 (v2 + (17 : Int32))) (fun r38 => fX6_chainUpTo_L4 n k S v0 v1 r38 (v3 + (1 : Int32)))))))))))))))))
def fX6_chainUpTo (n : Nat) (S : PS) (v0 : Nat) (v1 : Int32) : Option Int32 := bL1 (fX6_chainUpTo_L4 n n S v0 v1 (0 : Int32) (0 : Int32)) (fun x2_4 => some x2_4)
set_option maxRecDepth 100000 in
set_option maxHeartbeats 4000000 in
theorem sX6_chainUpTo_L4 {X : JX} {cI cZ cO cJ : ClassId} {gs : JP} {n : Nat} {S : PS} {post : Option Value → va_W → Prop} (hX : jOK X cX6_chainUpTo 4 wsX6_chainUpTo RX6 rmX6_chainUpTo) (hT : jT X = jTy cI cZ cO cJ) (hGX : jG X (GP gs)) (hret : jRI X cX6_chainUpTo rmX6_chainUpTo post) {o : (Int32)} (hex : ∀ (x2 : Int32), o = x2 → JW X 0 0 (pW cI cO S) 48 [(2, .int x2)] [])  : ∀ (k : Nat) (v0 : Nat) (v1 : Int32) (v2 : Int32) (v3 : Int32), fX6_chainUpTo_L4 n k S v0 v1 v2 v3 = some o → JW X 0 0 (pW cI cO S) 4 [(0, .ref v0), (1, .int v1), (2, .int v2), (3, .int v3)] [] := by
  intro k
  induction k with
  | zero => intro v0 v1 v2 v3 h; cases h
  | succ k hrec0 =>
    intro v0 v1 v2 v3 h
    unfold fX6_chainUpTo_L4 at h
    refine jw_iload_n hX dX6_chainUpTo_4 rfl 3 rfl ?_
    refine jw_iload_n hX dX6_chainUpTo_5 rfl 1 rfl ?_
    refine jw_icmp_gt (tgt := 48) hX dX6_chainUpTo_6 (by decide) (fun hc => ?_) (fun hc => ?_)
    · rw [if_pos hc] at h
      refine jw_sub [2] [(2, .int v2)] rfl ?_
      exact hex _ (Option.some.inj h).symm
    · rw [if_neg hc] at h
      refine jw_iload_n hX dX6_chainUpTo_9 rfl 3 rfl ?_
      refine jw_aload_n hX dX6_chainUpTo_10 rfl 0 rfl ?_
      obtain ⟨ho11_2, h⟩ := chk_some h
      obtain ⟨q11, hr11, h⟩ := bP_some h
      refine jw_pgetR hX hT 6 3 rfl (by decide) (by decide) rfl inX6_chainUpTo_6 rfl lkX6_chainUpTo_31 ho11_2 hr11 dX6_chainUpTo_11 ?_
      obtain ⟨ho14_5, h⟩ := chk_some h
      obtain ⟨r14, hc14, h⟩ := bP_some h
      refine jw_pVi (As := []) hX (GP_ok gs) hGX 0 (kJx4a65c_size_8abf5 hT hc14) gX6_chainUpTo_Jx4a65c_size_8abf5 rfl hdJx4a65c_size_8abf5 ⟨by decide, by decide⟩ 0 rfl (by decide) ho14_5 rfl (Nat.le_of_ble_eq_true rfl) dX6_chainUpTo_14 rfl rfl ⟨by decide, by decide⟩ ?_
      refine jw_icmp_ge (tgt := 48) hX dX6_chainUpTo_17 (by decide) (fun hc => ?_) (fun hc => ?_)
      · rw [if_pos hc] at h
        refine jw_sub [2] [(2, .int v2)] rfl ?_
        exact hex _ (Option.some.inj h).symm
      · rw [if_neg hc] at h
        refine jw_aload_n hX dX6_chainUpTo_20 rfl 0 rfl ?_
        obtain ⟨ho21_1, h⟩ := chk_some h
        obtain ⟨q21, hr21, h⟩ := bP_some h
        refine jw_pgetR hX hT 6 3 rfl (by decide) (by decide) rfl inX6_chainUpTo_6 rfl lkX6_chainUpTo_31 ho21_1 hr21 dX6_chainUpTo_21 ?_
        refine jw_iload_n hX dX6_chainUpTo_24 rfl 3 rfl ?_
        obtain ⟨ho25_5, h⟩ := chk_some h
        obtain ⟨r25, hc25, h⟩ := bP_some h
        refine jw_pVr (As := [.int v3]) hX (GP_ok gs) hGX 1 (kJx4a65c_get_915e3 hT hc25) gX6_chainUpTo_Jx4a65c_get_915e3 rfl hdJx4a65c_get_915e3 ⟨by decide, by decide⟩ 0 rfl (by decide) ho25_5 rfl (Nat.le_of_ble_eq_true rfl) dX6_chainUpTo_25 rfl rfl ⟨by decide, by decide⟩ ?_
        obtain ⟨ho28_8, h⟩ := chk_some h
        refine jw_pcast hX hT (k := 2) rfl (by decide) ho28_8 ckX6_chainUpTo_82 (gp_nc hGX (w := .castable RX1 RX1) (by decide +kernel)) dX6_chainUpTo_28 ?_
        obtain ⟨ho31_10, h⟩ := chk_some h
        obtain ⟨q31, hr31, h⟩ := bP_some h
        refine jw_pgetRN hX hT 2 1 rfl (by decide) (by decide) rfl inX6_chainUpTo_2 rfl (gp_nf hGX (w := .fieldLinkNest RX6 81 RX1 (TX1 1).2.1 (TX1 1).2.2.1 "Postlint") (by decide +kernel)) ho31_10 hr31 dX6_chainUpTo_31 ?_
        refine jw_iload_n hX dX6_chainUpTo_34 rfl 2 rfl ?_
        refine jw_bipush (v := (17 : Int32)) hX dX6_chainUpTo_35 (by decide) ?_
        refine jw_iadd hX dX6_chainUpTo_37 ?_
        obtain ⟨ho38_16, h⟩ := chk_some h
        obtain ⟨r38, hc38, h⟩ := bP_some h
        refine jw_pVi (As := [.int (v2 + (17 : Int32))]) hX (GP_ok gs) hGX 1 (kX4_chainedTo hT hc38) gX6_chainUpTo_X4_chainedTo rfl hdX4_chainedTo ⟨by decide, by decide⟩ 5 rfl (by decide) ho38_16 rfl (Nat.le_of_ble_eq_true rfl) dX6_chainUpTo_38 rfl rfl ⟨by decide, by decide⟩ ?_
        refine jw_istore_n hX [(2, .int r38), (0, .ref v0), (1, .int v1), (3, .int v3)] dX6_chainUpTo_41 rfl (by decide) rfl ?_
        refine jw_iinc (v := (v3 + (1 : Int32))) hX [(3, .int (v3 + (1 : Int32))), (2, .int r38), (0, .ref v0), (1, .int v1)] dX6_chainUpTo_42 3 rfl (by first | rfl | (congr 1; decide)) (by decide) rfl ?_
        refine jw_goto (tgt := 4) hX dX6_chainUpTo_45 (by decide) ?_
        refine jw_sub [2, 3, 1, 0] [(0, .ref v0), (1, .int v1), (2, .int r38), (3, .int (v3 + (1 : Int32)))] rfl ?_
        exact hrec0 _ _ _ _ h
set_option maxRecDepth 100000 in
set_option maxHeartbeats 4000000 in
theorem sX6_chainUpTo {X : JX} {cI cZ cO cJ : ClassId} {gs : JP} {n : Nat} {S : PS} {post : Option Value → va_W → Prop} (hX : jOK X cX6_chainUpTo 4 wsX6_chainUpTo RX6 rmX6_chainUpTo) (hT : jT X = jTy cI cZ cO cJ) (hGX : jG X (GP gs)) (hret : jRI X cX6_chainUpTo rmX6_chainUpTo post) {o : Int32} (hro : ∀ (v9 : Int32), o = v9 → post (some (.int v9)) (pW cI cO S))  {v0 : Nat} {v1 : Int32} (h : fX6_chainUpTo n S v0 v1 = some o) : JW X 0 0 (pW cI cO S) 0 [(0, .ref v0), (1, .int v1)] [] := by
  unfold fX6_chainUpTo at h
  refine jw_iconst (v := (0 : Int32)) hX dX6_chainUpTo_0 (by decide) ?_
  refine jw_istore_n hX [(2, .int (0 : Int32)), (0, .ref v0), (1, .int v1)] dX6_chainUpTo_1 rfl (by decide) rfl ?_
  refine jw_iconst (v := (0 : Int32)) hX dX6_chainUpTo_2 (by decide) ?_
  refine jw_istore_n hX [(3, .int (0 : Int32)), (2, .int (0 : Int32)), (0, .ref v0), (1, .int v1)] dX6_chainUpTo_3 rfl (by decide) rfl ?_
  refine jw_sub [2, 3, 1, 0] [(0, .ref v0), (1, .int v1), (2, .int (0 : Int32)), (3, .int (0 : Int32))] rfl ?_
  obtain ⟨x2_4, hl4, h⟩ := bL1_some h
  refine sX6_chainUpTo_L4 hX hT hGX hret (o := x2_4) (fun q0 e9 => ?_) n _ _ _ _ hl4
  cases e9
  refine jw_iload_n hX dX6_chainUpTo_48 rfl 0 rfl ?_
  exact hret _ _ _ _ _ _ (by decide) (by decide) dX6_chainUpTo_49 (hro _ (Option.some.inj h).symm)
set_option maxRecDepth 100000 in
set_option maxHeartbeats 4000000 in
theorem kX6_chainUpTo {l : Launch} {D : va_G} {tys : List (ClassId × FieldType)} {cI cZ cO cJ : ClassId} {gs : JP} {n : Nat} {S : PS} {v0 : Nat} {v1 : Int32} {r : Int32} (hT : tys = jTy cI cZ cO cJ) (h : fX6_chainUpTo n S v0 v1 = some r) : CC l (GP gs) D tys yX6_chainUpTo wsX6_chainUpTo rmX6_chainUpTo [.ref v0, .int v1] (pW cI cO S) (fun ov w2 => ov = some (.int r) ∧ w2 = (pW cI cO S)) := by
  refine CC_of (cc := cX6_chainUpTo) (maxL := 4) (ret := (some .int)) (by decide) rfl (Nat.le_of_ble_eq_true rfl) ?_
  intro X hD hL hT0 hGX hX rI rZ rV rA
  exact sX6_chainUpTo (post := fun ov w2 => ov = some (.int r) ∧ w2 = (pW cI cO S)) hX (hT0.trans hT) hGX (fun cells slots w9 pc lv v => rI cells slots w9 pc lv v rfl) (o := r) (fun v9 e9 => by cases e9; exact ⟨rfl, rfl⟩) h
/-! X6_isProofKept -/
abbrev rmX6_isProofKept : Room := { frames := 4, cells := 0, slots := 0, locals := 87 }
theorem hdX6_isProofKept : yX6_isProofKept.cls = RX6 ∧ yX6_isProofKept.cls ≠ "java/lang/invoke/MethodHandle" ∧ yX6_isProofKept.cls ≠ "java/lang/invoke/VarHandle" ∧ (parseMethodDescriptor yX6_isProofKept.desc).map (fun d => d.parameters.length) = some 1 := by decide +kernel
theorem inX6_isProofKept_1 : ∀ w ∈ wsX00, w ∈ wsX6_isProofKept := fun _ h => List.mem_cons_of_mem _ (List.mem_append_left _ (List.mem_append_left _ (List.mem_append_left _ (List.mem_append_left _ (List.mem_append_right _ h)))))
def fX6_isProofKept (n : Nat) (S : PS) (v0 : Nat) (v1 : Nat) : Option Int32 := chk (okP S v1 1) (chk (okP S v0 6) (bP (fX6_chainUpTo n S v0 (sI S 11 v1)) (fun r5 => chk (okP S v1 1) ((if r5 = (sI S 12 v1) then chk (b01 (1 : Int32)) (some (1 : Int32)) else chk (b01 (0 : Int32)) (some (0 : Int32)))))))
set_option maxRecDepth 100000 in
set_option maxHeartbeats 4000000 in
theorem sX6_isProofKept {X : JX} {cI cZ cO cJ : ClassId} {gs : JP} {n : Nat} {S : PS} {post : Option Value → va_W → Prop} (hX : jOK X cX6_isProofKept 2 wsX6_isProofKept RX6 rmX6_isProofKept) (hT : jT X = jTy cI cZ cO cJ) (hGX : jG X (GP gs)) (hret : jRZ X cX6_isProofKept rmX6_isProofKept post) {o : Int32} (hro : ∀ (v9 : Int32), o = v9 → post (some (.int v9)) (pW cI cO S))  {v0 : Nat} {v1 : Nat} (h : fX6_isProofKept n S v0 v1 = some o) : JW X 0 0 (pW cI cO S) 0 [(0, .ref v0), (1, .ref v1)] [] := by
  unfold fX6_isProofKept at h
  refine jw_aload_n hX dX6_isProofKept_0 rfl 0 rfl ?_
  refine jw_aload_n hX dX6_isProofKept_1 rfl 1 rfl ?_
  obtain ⟨ho2_2, h⟩ := chk_some h
  refine jw_pgetIN hX hT 1 1 rfl (by decide) (by decide) rfl inX6_isProofKept_1 rfl (gp_nf hGX (w := .fieldLinkNest RX6 239 RX0 (TX0 1).2.1 (TX0 1).2.2.1 "Postlint") (by decide +kernel)) ho2_2 dX6_isProofKept_2 ?_
  obtain ⟨ho5_4, h⟩ := chk_some h
  obtain ⟨r5, hc5, h⟩ := bP_some h
  refine jw_pVi (As := [.int (sI S 11 v1)]) hX (GP_ok gs) hGX 1 (kX6_chainUpTo hT hc5) gX6_isProofKept_X6_chainUpTo rfl hdX6_chainUpTo ⟨by decide, by decide⟩ 6 rfl (by decide) ho5_4 rfl (Nat.le_of_ble_eq_true rfl) dX6_isProofKept_5 rfl rfl ⟨by decide, by decide⟩ ?_
  refine jw_aload_n hX dX6_isProofKept_8 rfl 1 rfl ?_
  obtain ⟨ho9_8, h⟩ := chk_some h
  refine jw_pgetIN hX hT 1 2 rfl (by decide) (by decide) rfl inX6_isProofKept_1 rfl (gp_nf hGX (w := .fieldLinkNest RX6 242 RX0 (TX0 2).2.1 (TX0 2).2.2.1 "Postlint") (by decide +kernel)) ho9_8 dX6_isProofKept_9 ?_
  refine jw_icmp_ne (tgt := 19) hX dX6_isProofKept_12 (by decide) (fun hc => ?_) (fun hc => ?_)
  · rw [if_neg hc] at h
    refine jw_iconst (v := (0 : Int32)) hX dX6_isProofKept_19 (by decide) ?_
    obtain ⟨hz20, h⟩ := chk_some h
    exact hret _ _ _ _ _ _ (b01_or hz20) (by decide) (by decide) dX6_isProofKept_20 (hro _ (Option.some.inj h).symm)
  · rw [if_pos hc] at h
    refine jw_iconst (v := (1 : Int32)) hX dX6_isProofKept_15 (by decide) ?_
    refine jw_goto (tgt := 20) hX dX6_isProofKept_16 (by decide) ?_
    obtain ⟨hz20, h⟩ := chk_some h
    exact hret _ _ _ _ _ _ (b01_or hz20) (by decide) (by decide) dX6_isProofKept_20 (hro _ (Option.some.inj h).symm)
set_option maxRecDepth 100000 in
set_option maxHeartbeats 4000000 in
theorem kX6_isProofKept {l : Launch} {D : va_G} {tys : List (ClassId × FieldType)} {cI cZ cO cJ : ClassId} {gs : JP} {n : Nat} {S : PS} {v0 : Nat} {v1 : Nat} {r : Int32} (hT : tys = jTy cI cZ cO cJ) (h : fX6_isProofKept n S v0 v1 = some r) : CC l (GP gs) D tys yX6_isProofKept wsX6_isProofKept rmX6_isProofKept [.ref v0, .ref v1] (pW cI cO S) (fun ov w2 => ov = some (.int r) ∧ w2 = (pW cI cO S)) := by
  refine CC_of (cc := cX6_isProofKept) (maxL := 2) (ret := (some .boolean)) (by decide) rfl (Nat.le_of_ble_eq_true rfl) ?_
  intro X hD hL hT0 hGX hX rI rZ rV rA
  exact sX6_isProofKept (post := fun ov w2 => ov = some (.int r) ∧ w2 = (pW cI cO S)) hX (hT0.trans hT) hGX (fun cells slots w9 pc lv v => rZ cells slots w9 pc lv v rfl) (o := r) (fun v9 e9 => by cases e9; exact ⟨rfl, rfl⟩) h
/-! X6_end -/
abbrev rmX6_end : Room := { frames := 7, cells := 2, slots := 12, locals := 111 }
theorem hdX6_end : yX6_end.cls = RX6 ∧ yX6_end.cls ≠ "java/lang/invoke/MethodHandle" ∧ yX6_end.cls ≠ "java/lang/invoke/VarHandle" ∧ (parseMethodDescriptor yX6_end.desc).map (fun d => d.parameters.length) = some 1 := by decide +kernel
theorem inX6_end_1 : ∀ w ∈ wsX00, w ∈ wsX6_end := fun _ h => List.mem_cons_of_mem _ (List.mem_append_left _ (List.mem_append_left _ (List.mem_append_left _ (List.mem_append_left _ (List.mem_append_left _ (List.mem_append_left _ (List.mem_append_right _ h)))))))
theorem tkX6_end_IS : Cond.classLink "Postlint" 52 "java/lang/IllegalStateException" ∈ wsX6_end ∧ Cond.initialized "java/lang/IllegalStateException" ∈ wsX6_end := by decide +kernel
theorem taX6_end_IS : ∀ w ∈ (vx_atS "Postlint" 56 "java/lang/IllegalStateException" ["java/lang/RuntimeException", "java/lang/Exception"]).filter goodWord, w ∈ wsX6_end := fun _ h => List.mem_cons_of_mem _ (List.mem_append_left _ (List.mem_append_right _ h))
def fX6_end (n : Nat) (S : PS) (v0 : Nat) (v1 : Int32) : Option ((Nat × PS) ⊕ (Int32 × PS)) := chk (okP S v0 6) (bS1 (fX6_auditAt S v0 v1) (fun ex => some (Sum.inl (ex, S))) (fun r2 => chk (okP S r2 1) ((if (sI S 13 r2) = 0 then chk (okP S r2 1) (chk (b01 (1 : Int32)) (bnd (pI S 13 r2 (1 : Int32)) (fun w25 => chk (okP w25 v0 6) (bP (fX6_isProofKept n w25 v0 r2) (fun r30 => chk (b01 r30) (some (Sum.inr (r30, w25)))))))) else some (Sum.inl (1, S))))))
set_option maxRecDepth 100000 in
set_option maxHeartbeats 4000000 in
theorem sX6_end {X : JX} {cI cZ cO cJ : ClassId} {gs : JP} {n : Nat} {post : Option Value → va_W → Prop} (hX : jOK X cX6_end 3 wsX6_end RX6 rmX6_end) (hT : jT X = jTy cI cZ cO cJ) (hGX : jG X (GP gs)) (hret : jRZ X cX6_end rmX6_end post) {w0 : va_W} {px : String → va_W → Prop} (hQ : jXQ X w0 rmX6_end post px) {o : ((Nat × PS) ⊕ (Int32 × PS))} (hro : ∀ (v9 : Int32) (w9 : PS), o = .inr (v9, w9) → post (some (.int v9)) (pW cI cO w9)) (hrx : ∀ (x9 : Nat) (w9 : PS), o = .inl (x9, w9) → px (exN x9) (pW cI cO w9)) {S : PS} {v0 : Nat} {v1 : Int32} (h : fX6_end n S v0 v1 = some o) : JW X 0 0 (pW cI cO S) 0 [(0, .ref v0), (1, .int v1)] [] := by
  unfold fX6_end at h
  refine jw_aload_n hX dX6_end_0 rfl 0 rfl ?_
  refine jw_iload_n hX dX6_end_1 rfl 1 rfl ?_
  obtain ⟨ho2_2, h⟩ := chk_some h
  rcases bS1_some h with ⟨ex, hl2, h⟩ | ⟨r2, hl2, h⟩
  · skip
    exact jw_pVx (As := [.int v1]) hX (GP_ok gs) hGX hQ 1 (kxX6_auditAt (jXQ_tr hQ) hT hl2) gX6_end_X6_auditAt rfl hdX6_auditAt ⟨by decide, by decide⟩ 6 rfl (by decide) ho2_2 rfl (Nat.le_of_ble_eq_true rfl) dX6_end_2 ⟨by decide, by decide⟩ (hrx _ _ (Option.some.inj h).symm)
  · skip
    refine jw_pVXr (As := [.int v1]) hX (GP_ok gs) hGX 1 (kX6_auditAt (jXQ_tr hQ) hT hl2) gX6_end_X6_auditAt rfl hdX6_auditAt ⟨by decide, by decide⟩ 6 rfl (by decide) ho2_2 rfl (Nat.le_of_ble_eq_true rfl) dX6_end_2 rfl rfl ⟨by decide, by decide⟩ ?_
    refine jw_astore_n hX [(2, .ref r2), (0, .ref v0), (1, .int v1)] dX6_end_5 rfl (by decide) rfl ?_
    refine jw_aload_n hX dX6_end_6 rfl 0 rfl ?_
    obtain ⟨ho7_2, h⟩ := chk_some h
    refine jw_pgetIN hX hT 1 3 rfl (by decide) (by decide) rfl inX6_end_1 rfl (gp_nf hGX (w := .fieldLinkNest RX6 163 RX0 (TX0 3).2.1 (TX0 3).2.2.1 "Postlint") (by decide +kernel)) ho7_2 dX6_end_7 ?_
    refine jw_if_eq (tgt := 23) hX dX6_end_10 (by decide) (fun hc => ?_) (fun hc => ?_)
    · rw [if_pos hc] at h
      refine jw_aload_n hX dX6_end_23 rfl 0 rfl ?_
      refine jw_iconst (v := (1 : Int32)) hX dX6_end_24 (by decide) ?_
      obtain ⟨ho25_2, h⟩ := chk_some h
      obtain ⟨hz25, h⟩ := chk_some h
      refine jw_pputZN hX hT 1 3 rfl (by decide) (by decide) rfl inX6_end_1 rfl (gp_nf hGX (w := .fieldLinkNest RX6 163 RX0 (TX0 3).2.1 (TX0 3).2.2.1 "Postlint") (by decide +kernel)) tyX0 tyX0_ok nmX0 rfl (by decide +kernel) hz25 ho25_2 dX6_end_25 (fun w25 e25 => ?_)
      replace h := bnd_some h w25 e25
      clear e25
      refine jw_aload_n hX dX6_end_28 rfl 1 rfl ?_
      refine jw_aload_n hX dX6_end_29 rfl 0 rfl ?_
      obtain ⟨ho30_9, h⟩ := chk_some h
      obtain ⟨r30, hc30, h⟩ := bP_some h
      refine jw_pVi (As := [.ref r2]) hX (GP_ok gs) hGX 1 (kX6_isProofKept hT hc30) gX6_end_X6_isProofKept rfl hdX6_isProofKept ⟨by decide, by decide⟩ 6 rfl (by decide) ho30_9 rfl (Nat.le_of_ble_eq_true rfl) dX6_end_30 rfl rfl ⟨by decide, by decide⟩ ?_
      obtain ⟨hz33, h⟩ := chk_some h
      exact hret _ _ _ _ _ _ (b01_or hz33) (by decide) (by decide) dX6_end_33 (hro _ _ (Option.some.inj h).symm)
    · rw [if_neg hc] at h
      exact jw_throwS (is := 166) (text := "the audit has ended") hX hGX hQ (by decide +kernel) (by decide +kernel) tkX6_end_IS.1 tkX6_end_IS.2 (by decide +kernel) taX6_end_IS tbIS gNc_on tgIS dX6_end_13 dX6_end_16 dX6_end_17 dX6_end_19 dX6_end_22 (Nat.le_of_ble_eq_true rfl) (Nat.le_of_ble_eq_true rfl) (Nat.le_of_ble_eq_true rfl) (Nat.le_of_ble_eq_true rfl) (hrx _ _ (Option.some.inj h).symm)
set_option maxRecDepth 100000 in
set_option maxHeartbeats 4000000 in
theorem kX6_end {l : Launch} {D : va_G} {tys : List (ClassId × FieldType)} {cI cZ cO cJ : ClassId} {gs : JP} {n : Nat} {S : PS} {v0 : Nat} {v1 : Int32} {r : Int32} {w1 : PS} (hl : l.stackTraces = false) (hT : tys = jTy cI cZ cO cJ) (h : fX6_end n S v0 v1 = some (.inr (r, w1))) : CX l (GP gs) D tys yX6_end wsX6_end rmX6_end [.ref v0, .int v1] (pW cI cO S) (fun ov w2 => ov = some (.int r) ∧ w2 = (pW cI cO w1)) (fun _ _ => False) := by
  refine CX_of (cc := cX6_end) (maxL := 3) (ret := (some .boolean)) hl (by decide) rfl (Nat.le_of_ble_eq_true rfl) ?_
  intro X hD hL hT0 hGX hX hQ rI rZ rV rA
  exact sX6_end (post := fun ov w2 => ov = some (.int r) ∧ w2 = (pW cI cO w1)) (px := fun _ _ => False) hX (hT0.trans hT) hGX (rZ rfl) hQ (o := .inr (r, w1)) (fun v9 w9 e9 => by cases e9; exact ⟨rfl, rfl⟩) (fun x9 w9 e9 => nomatch e9) h
set_option maxRecDepth 100000 in
set_option maxHeartbeats 4000000 in
theorem kxX6_end {l : Launch} {D : va_G} {tys : List (ClassId × FieldType)} {cI cZ cO cJ : ClassId} {gs : JP} {n : Nat} {S : PS} {v0 : Nat} {v1 : Int32} {x9 : Nat} {w1 : PS} (hl : l.stackTraces = false) (hT : tys = jTy cI cZ cO cJ) (h : fX6_end n S v0 v1 = some (.inl (x9, w1))) : CX l (GP gs) D tys yX6_end wsX6_end rmX6_end [.ref v0, .int v1] (pW cI cO S) (fun _ _ => False) (fun E w2 => E = exN x9 ∧ w2 = (pW cI cO w1)) := by
  refine CX_of (cc := cX6_end) (maxL := 3) (ret := (some .boolean)) hl (by decide) rfl (Nat.le_of_ble_eq_true rfl) ?_
  intro X hD hL hT0 hGX hX hQ rI rZ rV rA
  exact sX6_end (post := fun _ _ => False) (px := fun E w2 => E = exN x9 ∧ w2 = (pW cI cO w1)) hX (hT0.trans hT) hGX (rZ rfl) hQ (o := .inl (x9, w1)) (fun v9 w9 e9 => nomatch e9) (fun x9 w9 e9 => by cases e9; exact ⟨rfl, rfl⟩) h
/-! X6_entries -/
abbrev rmX6_entries : Room := { frames := 1, cells := 0, slots := 0, locals := 20 }
theorem hdX6_entries : yX6_entries.cls = RX6 ∧ yX6_entries.cls ≠ "java/lang/invoke/MethodHandle" ∧ yX6_entries.cls ≠ "java/lang/invoke/VarHandle" ∧ (parseMethodDescriptor yX6_entries.desc).map (fun d => d.parameters.length) = some 0 := by decide +kernel
theorem lkX6_entries_31 : Cond.fieldLink RX6 31 RX6 (TX6 3).2.1 (TX6 3).2.2.1 ∈ wsX6_entries := by decide +kernel
theorem inX6_entries_6 : ∀ w ∈ wsX60, w ∈ wsX6_entries := fun _ h => List.mem_cons_of_mem _ (List.mem_append_left _ (List.mem_append_right _ h))
def fX6_entries (S : PS) (v0 : Nat) : Option Int32 := chk (okP S v0 6) (bP (sR S 63 v0) (fun q1 => chk (okP S q1 0) (bP (fJx4a65c_size_8abf5 S q1) (fun r4 => some r4))))
set_option maxRecDepth 100000 in
set_option maxHeartbeats 4000000 in
theorem sX6_entries {X : JX} {cI cZ cO cJ : ClassId} {gs : JP} {S : PS} {post : Option Value → va_W → Prop} (hX : jOK X cX6_entries 1 wsX6_entries RX6 rmX6_entries) (hT : jT X = jTy cI cZ cO cJ) (hGX : jG X (GP gs)) (hret : jRI X cX6_entries rmX6_entries post) {o : Int32} (hro : ∀ (v9 : Int32), o = v9 → post (some (.int v9)) (pW cI cO S))  {v0 : Nat} (h : fX6_entries S v0 = some o) : JW X 0 0 (pW cI cO S) 0 [(0, .ref v0)] [] := by
  unfold fX6_entries at h
  refine jw_aload_n hX dX6_entries_0 rfl 0 rfl ?_
  obtain ⟨ho1_1, h⟩ := chk_some h
  obtain ⟨q1, hr1, h⟩ := bP_some h
  refine jw_pgetR hX hT 6 3 rfl (by decide) (by decide) rfl inX6_entries_6 rfl lkX6_entries_31 ho1_1 hr1 dX6_entries_1 ?_
  obtain ⟨ho4_4, h⟩ := chk_some h
  obtain ⟨r4, hc4, h⟩ := bP_some h
  refine jw_pVi (As := []) hX (GP_ok gs) hGX 0 (kJx4a65c_size_8abf5 hT hc4) gX6_entries_Jx4a65c_size_8abf5 rfl hdJx4a65c_size_8abf5 ⟨by decide, by decide⟩ 0 rfl (by decide) ho4_4 rfl (Nat.le_of_ble_eq_true rfl) dX6_entries_4 rfl rfl ⟨by decide, by decide⟩ ?_
  exact hret _ _ _ _ _ _ (by decide) (by decide) dX6_entries_7 (hro _ (Option.some.inj h).symm)
set_option maxRecDepth 100000 in
set_option maxHeartbeats 4000000 in
theorem kX6_entries {l : Launch} {D : va_G} {tys : List (ClassId × FieldType)} {cI cZ cO cJ : ClassId} {gs : JP} {S : PS} {v0 : Nat} {r : Int32} (hT : tys = jTy cI cZ cO cJ) (h : fX6_entries S v0 = some r) : CC l (GP gs) D tys yX6_entries wsX6_entries rmX6_entries [.ref v0] (pW cI cO S) (fun ov w2 => ov = some (.int r) ∧ w2 = (pW cI cO S)) := by
  refine CC_of (cc := cX6_entries) (maxL := 1) (ret := (some .int)) (by decide) rfl (Nat.le_of_ble_eq_true rfl) ?_
  intro X hD hL hT0 hGX hX rI rZ rV rA
  exact sX6_entries (post := fun ov w2 => ov = some (.int r) ∧ w2 = (pW cI cO S)) hX (hT0.trans hT) hGX (fun cells slots w9 pc lv v => rI cells slots w9 pc lv v rfl) (o := r) (fun v9 e9 => by cases e9; exact ⟨rfl, rfl⟩) h
/-! X6_needForm -/
abbrev rmX6_needForm : Room := { frames := 6, cells := 1, slots := 6, locals := 90 }
theorem hdX6_needForm : yX6_needForm.cls ≠ "java/lang/invoke/MethodHandle" ∧ yX6_needForm.cls ≠ "java/lang/invoke/VarHandle" ∧ (parseMethodDescriptor yX6_needForm.desc).map (fun d => d.parameters.length) = some 1 := by decide +kernel
theorem tkX6_needForm_IA : Cond.classLink "Postlint" 41 "java/lang/IllegalArgumentException" ∈ wsX6_needForm ∧ Cond.initialized "java/lang/IllegalArgumentException" ∈ wsX6_needForm := by decide +kernel
theorem taX6_needForm_IA : ∀ w ∈ (vx_atS "Postlint" 45 "java/lang/IllegalArgumentException" ["java/lang/RuntimeException", "java/lang/Exception"]).filter goodWord, w ∈ wsX6_needForm := fun _ h => List.mem_cons_of_mem _ (List.mem_append_right _ h)
def fX6_needForm (v0 : Int32) : Option (Nat ⊕ Unit) := (if v0 < 0 then some (Sum.inl 0) else (if v0 ≤ (2 : Int32) then some (Sum.inr ()) else some (Sum.inl 0)))
set_option maxRecDepth 100000 in
set_option maxHeartbeats 4000000 in
theorem sX6_needForm {X : JX} {cI cZ cO cJ : ClassId} {gs : JP} {wv : va_W} {post : Option Value → va_W → Prop} (hX : jOK X cX6_needForm 1 wsX6_needForm RX6 rmX6_needForm) (hT : jT X = jTy cI cZ cO cJ) (hGX : jG X (GP gs)) (hret : jRV X cX6_needForm rmX6_needForm post) {w0 : va_W} {px : String → va_W → Prop} (hQ : jXQ X w0 rmX6_needForm post px) {o : (Nat ⊕ Unit)} (hro : o = .inr () → post none wv) (hrx : ∀ x9 : Nat, o = .inl x9 → px (exN x9) wv) {v0 : Int32} (h : fX6_needForm v0 = some o) : JW X 0 0 wv 0 [(0, .int v0)] [] := by
  unfold fX6_needForm at h
  refine jw_iload_n hX dX6_needForm_0 rfl 0 rfl ?_
  refine jw_if_lt (tgt := 9) hX dX6_needForm_1 (by decide) (fun hc => ?_) (fun hc => ?_)
  · rw [if_pos hc] at h
    exact jw_throwS (is := 206) (text := "the form is out of range") hX hGX hQ (by decide +kernel) (by decide +kernel) tkX6_needForm_IA.1 tkX6_needForm_IA.2 (by decide +kernel) taX6_needForm_IA tbIA gNc_on tgIA dX6_needForm_9 dX6_needForm_12 dX6_needForm_13 dX6_needForm_15 dX6_needForm_18 (Nat.le_of_ble_eq_true rfl) (Nat.le_of_ble_eq_true rfl) (Nat.le_of_ble_eq_true rfl) (Nat.le_of_ble_eq_true rfl) (hrx _ (Option.some.inj h).symm)
  · rw [if_neg hc] at h
    refine jw_iload_n hX dX6_needForm_4 rfl 0 rfl ?_
    refine jw_iconst (v := (2 : Int32)) hX dX6_needForm_5 (by decide) ?_
    refine jw_icmp_le (tgt := 19) hX dX6_needForm_6 (by decide) (fun hc => ?_) (fun hc => ?_)
    · rw [if_pos hc] at h
      exact hret _ _ _ _ _ (by decide) (by decide) dX6_needForm_19 (hro (Option.some.inj h).symm)
    · rw [if_neg hc] at h
      exact jw_throwS (is := 206) (text := "the form is out of range") hX hGX hQ (by decide +kernel) (by decide +kernel) tkX6_needForm_IA.1 tkX6_needForm_IA.2 (by decide +kernel) taX6_needForm_IA tbIA gNc_on tgIA dX6_needForm_9 dX6_needForm_12 dX6_needForm_13 dX6_needForm_15 dX6_needForm_18 (Nat.le_of_ble_eq_true rfl) (Nat.le_of_ble_eq_true rfl) (Nat.le_of_ble_eq_true rfl) (Nat.le_of_ble_eq_true rfl) (hrx _ (Option.some.inj h).symm)
set_option maxRecDepth 100000 in
set_option maxHeartbeats 4000000 in
theorem kX6_needForm {l : Launch} {D : va_G} {tys : List (ClassId × FieldType)} {cI cZ cO cJ : ClassId} {gs : JP} {wv : va_W} {v0 : Int32} (hl : l.stackTraces = false) (hT : tys = jTy cI cZ cO cJ) (h : fX6_needForm v0 = some (.inr ())) : CX l (GP gs) D tys yX6_needForm wsX6_needForm rmX6_needForm [.int v0] wv (fun ov w2 => ov = none ∧ w2 = wv) (fun _ _ => False) := by
  refine CX_of (cc := cX6_needForm) (maxL := 1) (ret := none) hl (by decide) rfl (Nat.le_of_ble_eq_true rfl) ?_
  intro X hD hL hT0 hGX hX hQ rI rZ rV rA
  exact sX6_needForm (post := fun ov w2 => ov = none ∧ w2 = wv) (px := fun _ _ => False) hX (hT0.trans hT) hGX (rV rfl) hQ (o := .inr ()) (fun e9 => by cases e9; exact ⟨rfl, rfl⟩) (fun x9 e9 => nomatch e9) h
set_option maxRecDepth 100000 in
set_option maxHeartbeats 4000000 in
theorem kxX6_needForm {l : Launch} {D : va_G} {tys : List (ClassId × FieldType)} {cI cZ cO cJ : ClassId} {gs : JP} {wv : va_W} {v0 : Int32} {x9 : Nat} (hl : l.stackTraces = false) (hT : tys = jTy cI cZ cO cJ) (h : fX6_needForm v0 = some (.inl x9)) : CX l (GP gs) D tys yX6_needForm wsX6_needForm rmX6_needForm [.int v0] wv (fun _ _ => False) (fun E w2 => E = exN x9 ∧ w2 = wv) := by
  refine CX_of (cc := cX6_needForm) (maxL := 1) (ret := none) hl (by decide) rfl (Nat.le_of_ble_eq_true rfl) ?_
  intro X hD hL hT0 hGX hX hQ rI rZ rV rA
  exact sX6_needForm (post := fun _ _ => False) (px := fun E w2 => E = exN x9 ∧ w2 = wv) hX (hT0.trans hT) hGX (rV rfl) hQ (o := .inl x9) (fun e9 => nomatch e9) (fun x9 e9 => by cases e9; exact ⟨rfl, rfl⟩) h
/-! X6_textOf -/
abbrev rmX6_textOf : Room := { frames := 4, cells := 0, slots := 0, locals := 92 }
theorem hdX6_textOf : yX6_textOf.cls = RX6 ∧ yX6_textOf.cls ≠ "java/lang/invoke/MethodHandle" ∧ yX6_textOf.cls ≠ "java/lang/invoke/VarHandle" ∧ (parseMethodDescriptor yX6_textOf.desc).map (fun d => d.parameters.length) = some 2 := by decide +kernel
theorem inX6_textOf_2 : ∀ w ∈ wsX10, w ∈ wsX6_textOf := fun _ h => List.mem_cons_of_mem _ (List.mem_append_left _ (List.mem_append_left _ (List.mem_append_right _ h)))
theorem lkX6_textOf_18 : Cond.fieldLink RX6 18 RX6 (TX6 1).2.1 (TX6 1).2.2.1 ∈ wsX6_textOf := by decide +kernel
theorem inX6_textOf_6 : ∀ w ∈ wsX60, w ∈ wsX6_textOf := fun _ h => List.mem_cons_of_mem _ (List.mem_append_left _ (List.mem_append_right _ h))
def fX6_textOf (n : Nat) (S : PS) (v0 : Nat) (v1 : Nat) (v2 : Int32) : Option (Nat × PS) := (if v2 = 0 then chk (okP S v1 2) (bP (sR S 20 v1) (fun q5 => some (q5, S))) else (if v2 = (1 : Int32) then chk (okP S v1 2) (bP (sR S 21 v1) (fun q22 => some (q22, S))) else chk (okP S v1 2) ((if (sI S 25 v1) = 0 then chk (okP S v0 6) (bP (sR S 61 v0) (fun q28 => chk (okP S v1 2) (bP (fX1_spreadInto n S v1 q28) (fun w31 => chk (okP w31 v0 6) (bP (sR w31 61 v0) (fun q35 => some (q35, w31))))))) else chk (okP S v1 2) (bP (sR S 21 v1) (fun q22 => some (q22, S)))))))
set_option maxRecDepth 100000 in
set_option maxHeartbeats 4000000 in
theorem sX6_textOf {X : JX} {cI cZ cO cJ : ClassId} {gs : JP} {n : Nat} {post : Option Value → va_W → Prop} (hX : jOK X cX6_textOf 3 wsX6_textOf RX6 rmX6_textOf) (hT : jT X = jTy cI cZ cO cJ) (hGX : jG X (GP gs)) (hret : jRA X cX6_textOf rmX6_textOf post) {o : (Nat × PS)} (hro : ∀ (v9 : Nat) (w9 : PS), o = (v9, w9) → post (some (.ref v9)) (pW cI cO w9))  {S : PS} {v0 : Nat} {v1 : Nat} {v2 : Int32} (h : fX6_textOf n S v0 v1 v2 = some o) : JW X 0 0 (pW cI cO S) 0 [(0, .ref v0), (1, .ref v1), (2, .int v2)] [] := by
  unfold fX6_textOf at h
  refine jw_iload_n hX dX6_textOf_0 rfl 2 rfl ?_
  refine jw_if_ne (tgt := 9) hX dX6_textOf_1 (by decide) (fun hc => ?_) (fun hc => ?_)
  · rw [if_neg hc] at h
    refine jw_iload_n hX dX6_textOf_9 rfl 2 rfl ?_
    refine jw_iconst (v := (1 : Int32)) hX dX6_textOf_10 (by decide) ?_
    refine jw_icmp_eq (tgt := 21) hX dX6_textOf_11 (by decide) (fun hc => ?_) (fun hc => ?_)
    · rw [if_pos hc] at h
      refine jw_aload_n hX dX6_textOf_21 rfl 1 rfl ?_
      obtain ⟨ho22_1, h⟩ := chk_some h
      obtain ⟨q22, hr22, h⟩ := bP_some h
      refine jw_pgetRN hX hT 2 1 rfl (by decide) (by decide) rfl inX6_textOf_2 rfl (gp_nf hGX (w := .fieldLinkNest RX6 81 RX1 (TX1 1).2.1 (TX1 1).2.2.1 "Postlint") (by decide +kernel)) ho22_1 hr22 dX6_textOf_22 ?_
      exact hret _ _ _ _ _ _ (by decide) (by decide) dX6_textOf_25 (hro _ _ (Option.some.inj h).symm)
    · rw [if_neg hc] at h
      refine jw_aload_n hX dX6_textOf_14 rfl 1 rfl ?_
      obtain ⟨ho15_1, h⟩ := chk_some h
      refine jw_pgetIN hX hT 2 5 rfl (by decide) (by decide) rfl inX6_textOf_2 rfl (gp_nf hGX (w := .fieldLinkNest RX6 100 RX1 (TX1 5).2.1 (TX1 5).2.2.1 "Postlint") (by decide +kernel)) ho15_1 dX6_textOf_15 ?_
      refine jw_if_eq (tgt := 26) hX dX6_textOf_18 (by decide) (fun hc => ?_) (fun hc => ?_)
      · rw [if_pos hc] at h
        refine jw_aload_n hX dX6_textOf_26 rfl 1 rfl ?_
        refine jw_aload_n hX dX6_textOf_27 rfl 0 rfl ?_
        obtain ⟨ho28_2, h⟩ := chk_some h
        obtain ⟨q28, hr28, h⟩ := bP_some h
        refine jw_pgetR hX hT 6 1 rfl (by decide) (by decide) rfl inX6_textOf_6 rfl lkX6_textOf_18 ho28_2 hr28 dX6_textOf_28 ?_
        obtain ⟨ho31_5, h⟩ := chk_some h
        obtain ⟨w31, hc31, h⟩ := bP_some h
        refine jw_pVv (As := [.ref q28]) hX (GP_ok gs) hGX 1 (kX1_spreadInto hT hc31) gX6_textOf_X1_spreadInto rfl hdX1_spreadInto ⟨by decide, by decide⟩ 2 rfl (by decide) ho31_5 rfl (Nat.le_of_ble_eq_true rfl) dX6_textOf_31 rfl rfl ⟨by decide, by decide⟩ ?_
        refine jw_aload_n hX dX6_textOf_34 rfl 0 rfl ?_
        obtain ⟨ho35_9, h⟩ := chk_some h
        obtain ⟨q35, hr35, h⟩ := bP_some h
        refine jw_pgetR hX hT 6 1 rfl (by decide) (by decide) rfl inX6_textOf_6 rfl lkX6_textOf_18 ho35_9 hr35 dX6_textOf_35 ?_
        exact hret _ _ _ _ _ _ (by decide) (by decide) dX6_textOf_38 (hro _ _ (Option.some.inj h).symm)
      · rw [if_neg hc] at h
        refine jw_aload_n hX dX6_textOf_21 rfl 1 rfl ?_
        obtain ⟨ho22_1, h⟩ := chk_some h
        obtain ⟨q22, hr22, h⟩ := bP_some h
        refine jw_pgetRN hX hT 2 1 rfl (by decide) (by decide) rfl inX6_textOf_2 rfl (gp_nf hGX (w := .fieldLinkNest RX6 81 RX1 (TX1 1).2.1 (TX1 1).2.2.1 "Postlint") (by decide +kernel)) ho22_1 hr22 dX6_textOf_22 ?_
        exact hret _ _ _ _ _ _ (by decide) (by decide) dX6_textOf_25 (hro _ _ (Option.some.inj h).symm)
  · rw [if_pos hc] at h
    refine jw_aload_n hX dX6_textOf_4 rfl 1 rfl ?_
    obtain ⟨ho5_1, h⟩ := chk_some h
    obtain ⟨q5, hr5, h⟩ := bP_some h
    refine jw_pgetRN hX hT 2 0 rfl (by decide) (by decide) rfl inX6_textOf_2 rfl (gp_nf hGX (w := .fieldLinkNest RX6 227 RX1 (TX1 0).2.1 (TX1 0).2.2.1 "Postlint") (by decide +kernel)) ho5_1 hr5 dX6_textOf_5 ?_
    exact hret _ _ _ _ _ _ (by decide) (by decide) dX6_textOf_8 (hro _ _ (Option.some.inj h).symm)
set_option maxRecDepth 100000 in
set_option maxHeartbeats 4000000 in
theorem kX6_textOf {l : Launch} {D : va_G} {tys : List (ClassId × FieldType)} {cI cZ cO cJ : ClassId} {gs : JP} {n : Nat} {S : PS} {v0 : Nat} {v1 : Nat} {v2 : Int32} {r : Nat} {w1 : PS} (hT : tys = jTy cI cZ cO cJ) (h : fX6_textOf n S v0 v1 v2 = some (r, w1)) : CC l (GP gs) D tys yX6_textOf wsX6_textOf rmX6_textOf [.ref v0, .ref v1, .int v2] (pW cI cO S) (fun ov w2 => ov = some (.ref r) ∧ w2 = (pW cI cO w1)) := by
  refine CC_of (cc := cX6_textOf) (maxL := 3) (ret := (some (.object "Postlint$Signs"))) (by decide) rfl (Nat.le_of_ble_eq_true rfl) ?_
  intro X hD hL hT0 hGX hX rI rZ rV rA
  exact sX6_textOf (post := fun ov w2 => ov = some (.ref r) ∧ w2 = (pW cI cO w1)) hX (hT0.trans hT) hGX (fun cells slots w9 pc lv v => rA cells slots w9 pc lv v (Or.inl ⟨_, rfl⟩)) (o := (r, w1)) (fun v9 w9 e9 => by cases e9; exact ⟨rfl, rfl⟩) h
/-! X6_signAt -/
abbrev rmX6_signAt : Room := { frames := 7, cells := 2, slots := 12, locals := 114 }
theorem hdX6_signAt : yX6_signAt.cls = RX6 ∧ yX6_signAt.cls ≠ "java/lang/invoke/MethodHandle" ∧ yX6_signAt.cls ≠ "java/lang/invoke/VarHandle" ∧ (parseMethodDescriptor yX6_signAt.desc).map (fun d => d.parameters.length) = some 3 := by decide +kernel
theorem tkX6_signAt_IO : Cond.classLink "Postlint" 172 "java/lang/IndexOutOfBoundsException" ∈ wsX6_signAt ∧ Cond.initialized "java/lang/IndexOutOfBoundsException" ∈ wsX6_signAt := by decide +kernel
theorem taX6_signAt_IO : ∀ w ∈ (vx_atS "Postlint" 176 "java/lang/IndexOutOfBoundsException" ["java/lang/RuntimeException", "java/lang/Exception"]).filter goodWord, w ∈ wsX6_signAt := fun _ h => List.mem_cons_of_mem _ (List.mem_append_left _ (List.mem_append_right _ h))
def fX6_signAt (n : Nat) (S : PS) (v0 : Nat) (v1 : Int32) (v2 : Int32) (v3 : Int32) : Option ((Nat × PS) ⊕ (Int32 × PS)) := chk (okP S v0 6) (bS1 (fX6_entryAt S v0 v1) (fun ex => some (Sum.inl (ex, S))) (fun r2 => (if 0 ≤ v3 then bS0 (fX6_needForm v2) (fun ex => some (Sum.inl (ex, S))) (fun _ => chk (okP S v0 6) (b2 (fX6_textOf n S v0 r2 v2) (fun r29 w29 => chk (okP w29 r29 5) (bP (fX4_at w29 r29 v3) (fun r33 => some (Sum.inr (r33, w29))))))) else some (Sum.inl (2, S)))))
set_option maxRecDepth 100000 in
set_option maxHeartbeats 4000000 in
theorem sX6_signAt {X : JX} {cI cZ cO cJ : ClassId} {gs : JP} {n : Nat} {post : Option Value → va_W → Prop} (hX : jOK X cX6_signAt 5 wsX6_signAt RX6 rmX6_signAt) (hT : jT X = jTy cI cZ cO cJ) (hGX : jG X (GP gs)) (hret : jRI X cX6_signAt rmX6_signAt post) {w0 : va_W} {px : String → va_W → Prop} (hQ : jXQ X w0 rmX6_signAt post px) {o : ((Nat × PS) ⊕ (Int32 × PS))} (hro : ∀ (v9 : Int32) (w9 : PS), o = .inr (v9, w9) → post (some (.int v9)) (pW cI cO w9)) (hrx : ∀ (x9 : Nat) (w9 : PS), o = .inl (x9, w9) → px (exN x9) (pW cI cO w9)) {S : PS} {v0 : Nat} {v1 : Int32} {v2 : Int32} {v3 : Int32} (h : fX6_signAt n S v0 v1 v2 v3 = some o) : JW X 0 0 (pW cI cO S) 0 [(0, .ref v0), (1, .int v1), (2, .int v2), (3, .int v3)] [] := by
  unfold fX6_signAt at h
  refine jw_aload_n hX dX6_signAt_0 rfl 0 rfl ?_
  refine jw_iload_n hX dX6_signAt_1 rfl 1 rfl ?_
  obtain ⟨ho2_2, h⟩ := chk_some h
  rcases bS1_some h with ⟨ex, hl2, h⟩ | ⟨r2, hl2, h⟩
  · skip
    exact jw_pVx (As := [.int v1]) hX (GP_ok gs) hGX hQ 1 (kxX6_entryAt (jXQ_tr hQ) hT hl2) gX6_signAt_X6_entryAt rfl hdX6_entryAt ⟨by decide, by decide⟩ 6 rfl (by decide) ho2_2 rfl (Nat.le_of_ble_eq_true rfl) dX6_signAt_2 ⟨by decide, by decide⟩ (hrx _ _ (Option.some.inj h).symm)
  · skip
    refine jw_pVXr (As := [.int v1]) hX (GP_ok gs) hGX 1 (kX6_entryAt (jXQ_tr hQ) hT hl2) gX6_signAt_X6_entryAt rfl hdX6_entryAt ⟨by decide, by decide⟩ 6 rfl (by decide) ho2_2 rfl (Nat.le_of_ble_eq_true rfl) dX6_signAt_2 rfl rfl ⟨by decide, by decide⟩ ?_
    refine jw_astore hX [(4, .ref r2), (0, .ref v0), (1, .int v1), (2, .int v2), (3, .int v3)] dX6_signAt_5 (by decide) rfl ?_
    refine jw_iload_n hX dX6_signAt_7 rfl 4 rfl ?_
    refine jw_if_ge (tgt := 21) hX dX6_signAt_8 (by decide) (fun hc => ?_) (fun hc => ?_)
    · rw [if_pos hc] at h
      refine jw_iload_n hX dX6_signAt_21 rfl 3 rfl ?_
      rcases bS0_some h with ⟨ex, hl22, h⟩ | ⟨hl22, h⟩
      · skip
        exact jw_cSx (As := [.int v2]) hX (GP_ok gs) hGX hQ 1 (kxX6_needForm (jXQ_tr hQ) hT hl22) gX6_signAt_X6_needForm rfl hdX6_needForm ⟨by decide, by decide⟩ rfl (Nat.le_of_ble_eq_true rfl) dX6_signAt_22 ⟨by decide, by decide⟩ (hrx _ _ (Option.some.inj h).symm)
      · skip
        refine jw_cSXv (As := [.int v2]) hX (GP_ok gs) hGX 1 (kX6_needForm (jXQ_tr hQ) hT hl22) gX6_signAt_X6_needForm rfl hdX6_needForm ⟨by decide, by decide⟩ rfl (Nat.le_of_ble_eq_true rfl) dX6_signAt_22 rfl rfl ⟨by decide, by decide⟩ ?_
        refine jw_aload_n hX dX6_signAt_25 rfl 1 rfl ?_
        refine jw_aload hX dX6_signAt_26 0 rfl ?_
        refine jw_iload_n hX dX6_signAt_28 rfl 3 rfl ?_
        obtain ⟨ho29_3, h⟩ := chk_some h
        obtain ⟨r29, w29, hc29, h⟩ := b2_some h
        refine jw_pVr (As := [.ref r2, .int v2]) hX (GP_ok gs) hGX 2 (kX6_textOf hT hc29) gX6_signAt_X6_textOf rfl hdX6_textOf ⟨by decide, by decide⟩ 6 rfl (by decide) ho29_3 rfl (Nat.le_of_ble_eq_true rfl) dX6_signAt_29 rfl rfl ⟨by decide, by decide⟩ ?_
        refine jw_iload_n hX dX6_signAt_32 rfl 4 rfl ?_
        obtain ⟨ho33_7, h⟩ := chk_some h
        obtain ⟨r33, hc33, h⟩ := bP_some h
        refine jw_pVi (As := [.int v3]) hX (GP_ok gs) hGX 1 (kX4_at hT hc33) gX6_signAt_X4_at rfl hdX4_at ⟨by decide, by decide⟩ 5 rfl (by decide) ho33_7 rfl (Nat.le_of_ble_eq_true rfl) dX6_signAt_33 rfl rfl ⟨by decide, by decide⟩ ?_
        exact hret _ _ _ _ _ _ (by decide) (by decide) dX6_signAt_36 (hro _ _ (Option.some.inj h).symm)
    · rw [if_neg hc] at h
      exact jw_throwS (is := 174) (text := "the place is below 0") hX hGX hQ (by decide +kernel) (by decide +kernel) tkX6_signAt_IO.1 tkX6_signAt_IO.2 (by decide +kernel) taX6_signAt_IO tbIO gNc_on tgIO dX6_signAt_11 dX6_signAt_14 dX6_signAt_15 dX6_signAt_17 dX6_signAt_20 (Nat.le_of_ble_eq_true rfl) (Nat.le_of_ble_eq_true rfl) (Nat.le_of_ble_eq_true rfl) (Nat.le_of_ble_eq_true rfl) (hrx _ _ (Option.some.inj h).symm)
set_option maxRecDepth 100000 in
set_option maxHeartbeats 4000000 in
theorem kX6_signAt {l : Launch} {D : va_G} {tys : List (ClassId × FieldType)} {cI cZ cO cJ : ClassId} {gs : JP} {n : Nat} {S : PS} {v0 : Nat} {v1 : Int32} {v2 : Int32} {v3 : Int32} {r : Int32} {w1 : PS} (hl : l.stackTraces = false) (hT : tys = jTy cI cZ cO cJ) (h : fX6_signAt n S v0 v1 v2 v3 = some (.inr (r, w1))) : CX l (GP gs) D tys yX6_signAt wsX6_signAt rmX6_signAt [.ref v0, .int v1, .int v2, .int v3] (pW cI cO S) (fun ov w2 => ov = some (.int r) ∧ w2 = (pW cI cO w1)) (fun _ _ => False) := by
  refine CX_of (cc := cX6_signAt) (maxL := 5) (ret := (some .int)) hl (by decide) rfl (Nat.le_of_ble_eq_true rfl) ?_
  intro X hD hL hT0 hGX hX hQ rI rZ rV rA
  exact sX6_signAt (post := fun ov w2 => ov = some (.int r) ∧ w2 = (pW cI cO w1)) (px := fun _ _ => False) hX (hT0.trans hT) hGX (rI rfl) hQ (o := .inr (r, w1)) (fun v9 w9 e9 => by cases e9; exact ⟨rfl, rfl⟩) (fun x9 w9 e9 => nomatch e9) h
set_option maxRecDepth 100000 in
set_option maxHeartbeats 4000000 in
theorem kxX6_signAt {l : Launch} {D : va_G} {tys : List (ClassId × FieldType)} {cI cZ cO cJ : ClassId} {gs : JP} {n : Nat} {S : PS} {v0 : Nat} {v1 : Int32} {v2 : Int32} {v3 : Int32} {x9 : Nat} {w1 : PS} (hl : l.stackTraces = false) (hT : tys = jTy cI cZ cO cJ) (h : fX6_signAt n S v0 v1 v2 v3 = some (.inl (x9, w1))) : CX l (GP gs) D tys yX6_signAt wsX6_signAt rmX6_signAt [.ref v0, .int v1, .int v2, .int v3] (pW cI cO S) (fun _ _ => False) (fun E w2 => E = exN x9 ∧ w2 = (pW cI cO w1)) := by
  refine CX_of (cc := cX6_signAt) (maxL := 5) (ret := (some .int)) hl (by decide) rfl (Nat.le_of_ble_eq_true rfl) ?_
  intro X hD hL hT0 hGX hX hQ rI rZ rV rA
  exact sX6_signAt (post := fun _ _ => False) (px := fun E w2 => E = exN x9 ∧ w2 = (pW cI cO w1)) hX (hT0.trans hT) hGX (rI rfl) hQ (o := .inl (x9, w1)) (fun v9 w9 e9 => nomatch e9) (fun x9 w9 e9 => by cases e9; exact ⟨rfl, rfl⟩) h
/-! X6_length -/
abbrev rmX6_length : Room := { frames := 7, cells := 2, slots := 12, locals := 114 }
theorem hdX6_length : yX6_length.cls = RX6 ∧ yX6_length.cls ≠ "java/lang/invoke/MethodHandle" ∧ yX6_length.cls ≠ "java/lang/invoke/VarHandle" ∧ (parseMethodDescriptor yX6_length.desc).map (fun d => d.parameters.length) = some 2 := by decide +kernel
def fX6_length (n : Nat) (S : PS) (v0 : Nat) (v1 : Int32) (v2 : Int32) : Option ((Nat × PS) ⊕ (Int32 × PS)) := chk (okP S v0 6) (bS1 (fX6_entryAt S v0 v1) (fun ex => some (Sum.inl (ex, S))) (fun r2 => bS0 (fX6_needForm v2) (fun ex => some (Sum.inl (ex, S))) (fun _ => chk (okP S v0 6) (b2 (fX6_textOf n S v0 r2 v2) (fun r13 w13 => chk (okP w13 r13 5) (bP (fX4_size w13 r13) (fun r16 => some (Sum.inr (r16, w13)))))))))
set_option maxRecDepth 100000 in
set_option maxHeartbeats 4000000 in
theorem sX6_length {X : JX} {cI cZ cO cJ : ClassId} {gs : JP} {n : Nat} {post : Option Value → va_W → Prop} (hX : jOK X cX6_length 4 wsX6_length RX6 rmX6_length) (hT : jT X = jTy cI cZ cO cJ) (hGX : jG X (GP gs)) (hret : jRI X cX6_length rmX6_length post) {w0 : va_W} {px : String → va_W → Prop} (hQ : jXQ X w0 rmX6_length post px) {o : ((Nat × PS) ⊕ (Int32 × PS))} (hro : ∀ (v9 : Int32) (w9 : PS), o = .inr (v9, w9) → post (some (.int v9)) (pW cI cO w9)) (hrx : ∀ (x9 : Nat) (w9 : PS), o = .inl (x9, w9) → px (exN x9) (pW cI cO w9)) {S : PS} {v0 : Nat} {v1 : Int32} {v2 : Int32} (h : fX6_length n S v0 v1 v2 = some o) : JW X 0 0 (pW cI cO S) 0 [(0, .ref v0), (1, .int v1), (2, .int v2)] [] := by
  unfold fX6_length at h
  refine jw_aload_n hX dX6_length_0 rfl 0 rfl ?_
  refine jw_iload_n hX dX6_length_1 rfl 1 rfl ?_
  obtain ⟨ho2_2, h⟩ := chk_some h
  rcases bS1_some h with ⟨ex, hl2, h⟩ | ⟨r2, hl2, h⟩
  · skip
    exact jw_pVx (As := [.int v1]) hX (GP_ok gs) hGX hQ 1 (kxX6_entryAt (jXQ_tr hQ) hT hl2) gX6_length_X6_entryAt rfl hdX6_entryAt ⟨by decide, by decide⟩ 6 rfl (by decide) ho2_2 rfl (Nat.le_of_ble_eq_true rfl) dX6_length_2 ⟨by decide, by decide⟩ (hrx _ _ (Option.some.inj h).symm)
  · skip
    refine jw_pVXr (As := [.int v1]) hX (GP_ok gs) hGX 1 (kX6_entryAt (jXQ_tr hQ) hT hl2) gX6_length_X6_entryAt rfl hdX6_entryAt ⟨by decide, by decide⟩ 6 rfl (by decide) ho2_2 rfl (Nat.le_of_ble_eq_true rfl) dX6_length_2 rfl rfl ⟨by decide, by decide⟩ ?_
    refine jw_astore_n hX [(3, .ref r2), (0, .ref v0), (1, .int v1), (2, .int v2)] dX6_length_5 rfl (by decide) rfl ?_
    refine jw_iload_n hX dX6_length_6 rfl 3 rfl ?_
    rcases bS0_some h with ⟨ex, hl7, h⟩ | ⟨hl7, h⟩
    · skip
      exact jw_cSx (As := [.int v2]) hX (GP_ok gs) hGX hQ 1 (kxX6_needForm (jXQ_tr hQ) hT hl7) gX6_length_X6_needForm rfl hdX6_needForm ⟨by decide, by decide⟩ rfl (Nat.le_of_ble_eq_true rfl) dX6_length_7 ⟨by decide, by decide⟩ (hrx _ _ (Option.some.inj h).symm)
    · skip
      refine jw_cSXv (As := [.int v2]) hX (GP_ok gs) hGX 1 (kX6_needForm (jXQ_tr hQ) hT hl7) gX6_length_X6_needForm rfl hdX6_needForm ⟨by decide, by decide⟩ rfl (Nat.le_of_ble_eq_true rfl) dX6_length_7 rfl rfl ⟨by decide, by decide⟩ ?_
      refine jw_aload_n hX dX6_length_10 rfl 1 rfl ?_
      refine jw_aload_n hX dX6_length_11 rfl 0 rfl ?_
      refine jw_iload_n hX dX6_length_12 rfl 3 rfl ?_
      obtain ⟨ho13_3, h⟩ := chk_some h
      obtain ⟨r13, w13, hc13, h⟩ := b2_some h
      refine jw_pVr (As := [.ref r2, .int v2]) hX (GP_ok gs) hGX 2 (kX6_textOf hT hc13) gX6_length_X6_textOf rfl hdX6_textOf ⟨by decide, by decide⟩ 6 rfl (by decide) ho13_3 rfl (Nat.le_of_ble_eq_true rfl) dX6_length_13 rfl rfl ⟨by decide, by decide⟩ ?_
      obtain ⟨ho16_6, h⟩ := chk_some h
      obtain ⟨r16, hc16, h⟩ := bP_some h
      refine jw_pVi (As := []) hX (GP_ok gs) hGX 0 (kX4_size hT hc16) gX6_length_X4_size rfl hdX4_size ⟨by decide, by decide⟩ 5 rfl (by decide) ho16_6 rfl (Nat.le_of_ble_eq_true rfl) dX6_length_16 rfl rfl ⟨by decide, by decide⟩ ?_
      exact hret _ _ _ _ _ _ (by decide) (by decide) dX6_length_19 (hro _ _ (Option.some.inj h).symm)
set_option maxRecDepth 100000 in
set_option maxHeartbeats 4000000 in
theorem kX6_length {l : Launch} {D : va_G} {tys : List (ClassId × FieldType)} {cI cZ cO cJ : ClassId} {gs : JP} {n : Nat} {S : PS} {v0 : Nat} {v1 : Int32} {v2 : Int32} {r : Int32} {w1 : PS} (hl : l.stackTraces = false) (hT : tys = jTy cI cZ cO cJ) (h : fX6_length n S v0 v1 v2 = some (.inr (r, w1))) : CX l (GP gs) D tys yX6_length wsX6_length rmX6_length [.ref v0, .int v1, .int v2] (pW cI cO S) (fun ov w2 => ov = some (.int r) ∧ w2 = (pW cI cO w1)) (fun _ _ => False) := by
  refine CX_of (cc := cX6_length) (maxL := 4) (ret := (some .int)) hl (by decide) rfl (Nat.le_of_ble_eq_true rfl) ?_
  intro X hD hL hT0 hGX hX hQ rI rZ rV rA
  exact sX6_length (post := fun ov w2 => ov = some (.int r) ∧ w2 = (pW cI cO w1)) (px := fun _ _ => False) hX (hT0.trans hT) hGX (rI rfl) hQ (o := .inr (r, w1)) (fun v9 w9 e9 => by cases e9; exact ⟨rfl, rfl⟩) (fun x9 w9 e9 => nomatch e9) h
set_option maxRecDepth 100000 in
set_option maxHeartbeats 4000000 in
theorem kxX6_length {l : Launch} {D : va_G} {tys : List (ClassId × FieldType)} {cI cZ cO cJ : ClassId} {gs : JP} {n : Nat} {S : PS} {v0 : Nat} {v1 : Int32} {v2 : Int32} {x9 : Nat} {w1 : PS} (hl : l.stackTraces = false) (hT : tys = jTy cI cZ cO cJ) (h : fX6_length n S v0 v1 v2 = some (.inl (x9, w1))) : CX l (GP gs) D tys yX6_length wsX6_length rmX6_length [.ref v0, .int v1, .int v2] (pW cI cO S) (fun _ _ => False) (fun E w2 => E = exN x9 ∧ w2 = (pW cI cO w1)) := by
  refine CX_of (cc := cX6_length) (maxL := 4) (ret := (some .int)) hl (by decide) rfl (Nat.le_of_ble_eq_true rfl) ?_
  intro X hD hL hT0 hGX hX hQ rI rZ rV rA
  exact sX6_length (post := fun _ _ => False) (px := fun E w2 => E = exN x9 ∧ w2 = (pW cI cO w1)) hX (hT0.trans hT) hGX (rI rfl) hQ (o := .inl (x9, w1)) (fun v9 w9 e9 => nomatch e9) (fun x9 w9 e9 => by cases e9; exact ⟨rfl, rfl⟩) h
/-! X6_needEntry -/
abbrev rmX6_needEntry : Room := { frames := 6, cells := 1, slots := 6, locals := 90 }
theorem hdX6_needEntry : yX6_needEntry.cls = RX6 ∧ yX6_needEntry.cls ≠ "java/lang/invoke/MethodHandle" ∧ yX6_needEntry.cls ≠ "java/lang/invoke/VarHandle" ∧ (parseMethodDescriptor yX6_needEntry.desc).map (fun d => d.parameters.length) = some 1 := by decide +kernel
theorem tkX6_needEntry_IO : Cond.classLink "Postlint" 172 "java/lang/IndexOutOfBoundsException" ∈ wsX6_needEntry ∧ Cond.initialized "java/lang/IndexOutOfBoundsException" ∈ wsX6_needEntry := by decide +kernel
theorem taX6_needEntry_IO : ∀ w ∈ (vx_atS "Postlint" 176 "java/lang/IndexOutOfBoundsException" ["java/lang/RuntimeException", "java/lang/Exception"]).filter goodWord, w ∈ wsX6_needEntry := fun _ h => List.mem_cons_of_mem _ (List.mem_append_right _ h)
theorem lkX6_needEntry_31 : Cond.fieldLink RX6 31 RX6 (TX6 3).2.1 (TX6 3).2.2.1 ∈ wsX6_needEntry := by decide +kernel
theorem inX6_needEntry_6 : ∀ w ∈ wsX60, w ∈ wsX6_needEntry := fun _ h => List.mem_cons_of_mem _ (List.mem_append_left _ (List.mem_append_left _ (List.mem_append_right _ h)))
def fX6_needEntry (S : PS) (v0 : Nat) (v1 : Int32) : Option (Nat ⊕ Unit) := (if v1 < 0 then some (Sum.inl 2) else chk (okP S v0 6) (bP (sR S 63 v0) (fun q6 => chk (okP S q6 0) (bP (fJx4a65c_size_8abf5 S q6) (fun r9 => (if v1 < r9 then some (Sum.inr ()) else some (Sum.inl 2)))))))
set_option maxRecDepth 100000 in
set_option maxHeartbeats 4000000 in
theorem sX6_needEntry {X : JX} {cI cZ cO cJ : ClassId} {gs : JP} {S : PS} {post : Option Value → va_W → Prop} (hX : jOK X cX6_needEntry 2 wsX6_needEntry RX6 rmX6_needEntry) (hT : jT X = jTy cI cZ cO cJ) (hGX : jG X (GP gs)) (hret : jRV X cX6_needEntry rmX6_needEntry post) {w0 : va_W} {px : String → va_W → Prop} (hQ : jXQ X w0 rmX6_needEntry post px) {o : (Nat ⊕ Unit)} (hro : o = .inr () → post none (pW cI cO S)) (hrx : ∀ x9 : Nat, o = .inl x9 → px (exN x9) (pW cI cO S)) {v0 : Nat} {v1 : Int32} (h : fX6_needEntry S v0 v1 = some o) : JW X 0 0 (pW cI cO S) 0 [(0, .ref v0), (1, .int v1)] [] := by
  unfold fX6_needEntry at h
  refine jw_iload_n hX dX6_needEntry_0 rfl 1 rfl ?_
  refine jw_if_lt (tgt := 15) hX dX6_needEntry_1 (by decide) (fun hc => ?_) (fun hc => ?_)
  · rw [if_pos hc] at h
    exact jw_throwS (is := 198) (text := "there is no such entry") hX hGX hQ (by decide +kernel) (by decide +kernel) tkX6_needEntry_IO.1 tkX6_needEntry_IO.2 (by decide +kernel) taX6_needEntry_IO tbIO gNc_on tgIO dX6_needEntry_15 dX6_needEntry_18 dX6_needEntry_19 dX6_needEntry_21 dX6_needEntry_24 (Nat.le_of_ble_eq_true rfl) (Nat.le_of_ble_eq_true rfl) (Nat.le_of_ble_eq_true rfl) (Nat.le_of_ble_eq_true rfl) (hrx _ (Option.some.inj h).symm)
  · rw [if_neg hc] at h
    refine jw_iload_n hX dX6_needEntry_4 rfl 1 rfl ?_
    refine jw_aload_n hX dX6_needEntry_5 rfl 0 rfl ?_
    obtain ⟨ho6_2, h⟩ := chk_some h
    obtain ⟨q6, hr6, h⟩ := bP_some h
    refine jw_pgetR hX hT 6 3 rfl (by decide) (by decide) rfl inX6_needEntry_6 rfl lkX6_needEntry_31 ho6_2 hr6 dX6_needEntry_6 ?_
    obtain ⟨ho9_5, h⟩ := chk_some h
    obtain ⟨r9, hc9, h⟩ := bP_some h
    refine jw_pVi (As := []) hX (GP_ok gs) hGX 0 (kJx4a65c_size_8abf5 hT hc9) gX6_needEntry_Jx4a65c_size_8abf5 rfl hdJx4a65c_size_8abf5 ⟨by decide, by decide⟩ 0 rfl (by decide) ho9_5 rfl (Nat.le_of_ble_eq_true rfl) dX6_needEntry_9 rfl rfl ⟨by decide, by decide⟩ ?_
    refine jw_icmp_lt (tgt := 25) hX dX6_needEntry_12 (by decide) (fun hc => ?_) (fun hc => ?_)
    · rw [if_pos hc] at h
      exact hret _ _ _ _ _ (by decide) (by decide) dX6_needEntry_25 (hro (Option.some.inj h).symm)
    · rw [if_neg hc] at h
      exact jw_throwS (is := 198) (text := "there is no such entry") hX hGX hQ (by decide +kernel) (by decide +kernel) tkX6_needEntry_IO.1 tkX6_needEntry_IO.2 (by decide +kernel) taX6_needEntry_IO tbIO gNc_on tgIO dX6_needEntry_15 dX6_needEntry_18 dX6_needEntry_19 dX6_needEntry_21 dX6_needEntry_24 (Nat.le_of_ble_eq_true rfl) (Nat.le_of_ble_eq_true rfl) (Nat.le_of_ble_eq_true rfl) (Nat.le_of_ble_eq_true rfl) (hrx _ (Option.some.inj h).symm)
set_option maxRecDepth 100000 in
set_option maxHeartbeats 4000000 in
theorem kX6_needEntry {l : Launch} {D : va_G} {tys : List (ClassId × FieldType)} {cI cZ cO cJ : ClassId} {gs : JP} {S : PS} {v0 : Nat} {v1 : Int32} (hl : l.stackTraces = false) (hT : tys = jTy cI cZ cO cJ) (h : fX6_needEntry S v0 v1 = some (.inr ())) : CX l (GP gs) D tys yX6_needEntry wsX6_needEntry rmX6_needEntry [.ref v0, .int v1] (pW cI cO S) (fun ov w2 => ov = none ∧ w2 = (pW cI cO S)) (fun _ _ => False) := by
  refine CX_of (cc := cX6_needEntry) (maxL := 2) (ret := none) hl (by decide) rfl (Nat.le_of_ble_eq_true rfl) ?_
  intro X hD hL hT0 hGX hX hQ rI rZ rV rA
  exact sX6_needEntry (post := fun ov w2 => ov = none ∧ w2 = (pW cI cO S)) (px := fun _ _ => False) hX (hT0.trans hT) hGX (rV rfl) hQ (o := .inr ()) (fun e9 => by cases e9; exact ⟨rfl, rfl⟩) (fun x9 e9 => nomatch e9) h
set_option maxRecDepth 100000 in
set_option maxHeartbeats 4000000 in
theorem kxX6_needEntry {l : Launch} {D : va_G} {tys : List (ClassId × FieldType)} {cI cZ cO cJ : ClassId} {gs : JP} {S : PS} {v0 : Nat} {v1 : Int32} {x9 : Nat} (hl : l.stackTraces = false) (hT : tys = jTy cI cZ cO cJ) (h : fX6_needEntry S v0 v1 = some (.inl x9)) : CX l (GP gs) D tys yX6_needEntry wsX6_needEntry rmX6_needEntry [.ref v0, .int v1] (pW cI cO S) (fun _ _ => False) (fun E w2 => E = exN x9 ∧ w2 = (pW cI cO S)) := by
  refine CX_of (cc := cX6_needEntry) (maxL := 2) (ret := none) hl (by decide) rfl (Nat.le_of_ble_eq_true rfl) ?_
  intro X hD hL hT0 hGX hX hQ rI rZ rV rA
  exact sX6_needEntry (post := fun _ _ => False) (px := fun E w2 => E = exN x9 ∧ w2 = (pW cI cO S)) hX (hT0.trans hT) hGX (rV rfl) hQ (o := .inl x9) (fun e9 => nomatch e9) (fun x9 e9 => by cases e9; exact ⟨rfl, rfl⟩) h
/-! X6_proof -/
abbrev rmX6_proof : Room := { frames := 7, cells := 1, slots := 6, locals := 111 }
theorem hdX6_proof : yX6_proof.cls = RX6 ∧ yX6_proof.cls ≠ "java/lang/invoke/MethodHandle" ∧ yX6_proof.cls ≠ "java/lang/invoke/VarHandle" ∧ (parseMethodDescriptor yX6_proof.desc).map (fun d => d.parameters.length) = some 1 := by decide +kernel
def fX6_proof (n : Nat) (S : PS) (v0 : Nat) (v1 : Int32) : Option (Nat ⊕ Int32) := chk (okP S v0 6) (bS0 (fX6_needEntry S v0 v1) (fun ex => some (Sum.inl ex)) (fun _ => chk (okP S v0 6) (bP (fX6_chainUpTo n S v0 v1) (fun r7 => some (Sum.inr r7)))))
set_option maxRecDepth 100000 in
set_option maxHeartbeats 4000000 in
theorem sX6_proof {X : JX} {cI cZ cO cJ : ClassId} {gs : JP} {n : Nat} {S : PS} {post : Option Value → va_W → Prop} (hX : jOK X cX6_proof 2 wsX6_proof RX6 rmX6_proof) (hT : jT X = jTy cI cZ cO cJ) (hGX : jG X (GP gs)) (hret : jRI X cX6_proof rmX6_proof post) {w0 : va_W} {px : String → va_W → Prop} (hQ : jXQ X w0 rmX6_proof post px) {o : (Nat ⊕ Int32)} (hro : ∀ (v9 : Int32), o = .inr v9 → post (some (.int v9)) (pW cI cO S)) (hrx : ∀ x9 : Nat, o = .inl x9 → px (exN x9) (pW cI cO S)) {v0 : Nat} {v1 : Int32} (h : fX6_proof n S v0 v1 = some o) : JW X 0 0 (pW cI cO S) 0 [(0, .ref v0), (1, .int v1)] [] := by
  unfold fX6_proof at h
  refine jw_aload_n hX dX6_proof_0 rfl 0 rfl ?_
  refine jw_iload_n hX dX6_proof_1 rfl 1 rfl ?_
  obtain ⟨ho2_2, h⟩ := chk_some h
  rcases bS0_some h with ⟨ex, hl2, h⟩ | ⟨hl2, h⟩
  · skip
    exact jw_pVx (As := [.int v1]) hX (GP_ok gs) hGX hQ 1 (kxX6_needEntry (jXQ_tr hQ) hT hl2) gX6_proof_X6_needEntry rfl hdX6_needEntry ⟨by decide, by decide⟩ 6 rfl (by decide) ho2_2 rfl (Nat.le_of_ble_eq_true rfl) dX6_proof_2 ⟨by decide, by decide⟩ (hrx _ (Option.some.inj h).symm)
  · skip
    refine jw_pVXv (As := [.int v1]) hX (GP_ok gs) hGX 1 (kX6_needEntry (jXQ_tr hQ) hT hl2) gX6_proof_X6_needEntry rfl hdX6_needEntry ⟨by decide, by decide⟩ 6 rfl (by decide) ho2_2 rfl (Nat.le_of_ble_eq_true rfl) dX6_proof_2 rfl rfl ⟨by decide, by decide⟩ ?_
    refine jw_aload_n hX dX6_proof_5 rfl 0 rfl ?_
    refine jw_iload_n hX dX6_proof_6 rfl 1 rfl ?_
    obtain ⟨ho7_2, h⟩ := chk_some h
    obtain ⟨r7, hc7, h⟩ := bP_some h
    refine jw_pVi (As := [.int v1]) hX (GP_ok gs) hGX 1 (kX6_chainUpTo hT hc7) gX6_proof_X6_chainUpTo rfl hdX6_chainUpTo ⟨by decide, by decide⟩ 6 rfl (by decide) ho7_2 rfl (Nat.le_of_ble_eq_true rfl) dX6_proof_7 rfl rfl ⟨by decide, by decide⟩ ?_
    exact hret _ _ _ _ _ _ (by decide) (by decide) dX6_proof_10 (hro _ (Option.some.inj h).symm)
set_option maxRecDepth 100000 in
set_option maxHeartbeats 4000000 in
theorem kX6_proof {l : Launch} {D : va_G} {tys : List (ClassId × FieldType)} {cI cZ cO cJ : ClassId} {gs : JP} {n : Nat} {S : PS} {v0 : Nat} {v1 : Int32} {r : Int32} (hl : l.stackTraces = false) (hT : tys = jTy cI cZ cO cJ) (h : fX6_proof n S v0 v1 = some (.inr r)) : CX l (GP gs) D tys yX6_proof wsX6_proof rmX6_proof [.ref v0, .int v1] (pW cI cO S) (fun ov w2 => ov = some (.int r) ∧ w2 = (pW cI cO S)) (fun _ _ => False) := by
  refine CX_of (cc := cX6_proof) (maxL := 2) (ret := (some .int)) hl (by decide) rfl (Nat.le_of_ble_eq_true rfl) ?_
  intro X hD hL hT0 hGX hX hQ rI rZ rV rA
  exact sX6_proof (post := fun ov w2 => ov = some (.int r) ∧ w2 = (pW cI cO S)) (px := fun _ _ => False) hX (hT0.trans hT) hGX (rI rfl) hQ (o := .inr r) (fun v9 e9 => by cases e9; exact ⟨rfl, rfl⟩) (fun x9 e9 => nomatch e9) h
set_option maxRecDepth 100000 in
set_option maxHeartbeats 4000000 in
theorem kxX6_proof {l : Launch} {D : va_G} {tys : List (ClassId × FieldType)} {cI cZ cO cJ : ClassId} {gs : JP} {n : Nat} {S : PS} {v0 : Nat} {v1 : Int32} {x9 : Nat} (hl : l.stackTraces = false) (hT : tys = jTy cI cZ cO cJ) (h : fX6_proof n S v0 v1 = some (.inl x9)) : CX l (GP gs) D tys yX6_proof wsX6_proof rmX6_proof [.ref v0, .int v1] (pW cI cO S) (fun _ _ => False) (fun E w2 => E = exN x9 ∧ w2 = (pW cI cO S)) := by
  refine CX_of (cc := cX6_proof) (maxL := 2) (ret := (some .int)) hl (by decide) rfl (Nat.le_of_ble_eq_true rfl) ?_
  intro X hD hL hT0 hGX hX hQ rI rZ rV rA
  exact sX6_proof (post := fun _ _ => False) (px := fun E w2 => E = exN x9 ∧ w2 = (pW cI cO S)) hX (hT0.trans hT) hGX (rI rfl) hQ (o := .inl x9) (fun v9 e9 => nomatch e9) (fun x9 e9 => by cases e9; exact ⟨rfl, rfl⟩) h
/-! X6_proofAnew -/
abbrev rmX6_proofAnew : Room := { frames := 7, cells := 1, slots := 6, locals := 111 }
theorem hdX6_proofAnew : yX6_proofAnew.cls = RX6 ∧ yX6_proofAnew.cls ≠ "java/lang/invoke/MethodHandle" ∧ yX6_proofAnew.cls ≠ "java/lang/invoke/VarHandle" ∧ (parseMethodDescriptor yX6_proofAnew.desc).map (fun d => d.parameters.length) = some 1 := by decide +kernel
def fX6_proofAnew (n : Nat) (S : PS) (v0 : Nat) (v1 : Int32) : Option (Nat ⊕ Int32) := chk (okP S v0 6) (bS0 (fX6_needEntry S v0 v1) (fun ex => some (Sum.inl ex)) (fun _ => chk (okP S v0 6) (bP (fX6_chainUpTo n S v0 v1) (fun r7 => some (Sum.inr r7)))))
set_option maxRecDepth 100000 in
set_option maxHeartbeats 4000000 in
theorem sX6_proofAnew {X : JX} {cI cZ cO cJ : ClassId} {gs : JP} {n : Nat} {S : PS} {post : Option Value → va_W → Prop} (hX : jOK X cX6_proofAnew 2 wsX6_proofAnew RX6 rmX6_proofAnew) (hT : jT X = jTy cI cZ cO cJ) (hGX : jG X (GP gs)) (hret : jRI X cX6_proofAnew rmX6_proofAnew post) {w0 : va_W} {px : String → va_W → Prop} (hQ : jXQ X w0 rmX6_proofAnew post px) {o : (Nat ⊕ Int32)} (hro : ∀ (v9 : Int32), o = .inr v9 → post (some (.int v9)) (pW cI cO S)) (hrx : ∀ x9 : Nat, o = .inl x9 → px (exN x9) (pW cI cO S)) {v0 : Nat} {v1 : Int32} (h : fX6_proofAnew n S v0 v1 = some o) : JW X 0 0 (pW cI cO S) 0 [(0, .ref v0), (1, .int v1)] [] := by
  unfold fX6_proofAnew at h
  refine jw_aload_n hX dX6_proofAnew_0 rfl 0 rfl ?_
  refine jw_iload_n hX dX6_proofAnew_1 rfl 1 rfl ?_
  obtain ⟨ho2_2, h⟩ := chk_some h
  rcases bS0_some h with ⟨ex, hl2, h⟩ | ⟨hl2, h⟩
  · skip
    exact jw_pVx (As := [.int v1]) hX (GP_ok gs) hGX hQ 1 (kxX6_needEntry (jXQ_tr hQ) hT hl2) gX6_proofAnew_X6_needEntry rfl hdX6_needEntry ⟨by decide, by decide⟩ 6 rfl (by decide) ho2_2 rfl (Nat.le_of_ble_eq_true rfl) dX6_proofAnew_2 ⟨by decide, by decide⟩ (hrx _ (Option.some.inj h).symm)
  · skip
    refine jw_pVXv (As := [.int v1]) hX (GP_ok gs) hGX 1 (kX6_needEntry (jXQ_tr hQ) hT hl2) gX6_proofAnew_X6_needEntry rfl hdX6_needEntry ⟨by decide, by decide⟩ 6 rfl (by decide) ho2_2 rfl (Nat.le_of_ble_eq_true rfl) dX6_proofAnew_2 rfl rfl ⟨by decide, by decide⟩ ?_
    refine jw_aload_n hX dX6_proofAnew_5 rfl 0 rfl ?_
    refine jw_iload_n hX dX6_proofAnew_6 rfl 1 rfl ?_
    obtain ⟨ho7_2, h⟩ := chk_some h
    obtain ⟨r7, hc7, h⟩ := bP_some h
    refine jw_pVi (As := [.int v1]) hX (GP_ok gs) hGX 1 (kX6_chainUpTo hT hc7) gX6_proofAnew_X6_chainUpTo rfl hdX6_chainUpTo ⟨by decide, by decide⟩ 6 rfl (by decide) ho7_2 rfl (Nat.le_of_ble_eq_true rfl) dX6_proofAnew_7 rfl rfl ⟨by decide, by decide⟩ ?_
    exact hret _ _ _ _ _ _ (by decide) (by decide) dX6_proofAnew_10 (hro _ (Option.some.inj h).symm)
set_option maxRecDepth 100000 in
set_option maxHeartbeats 4000000 in
theorem kX6_proofAnew {l : Launch} {D : va_G} {tys : List (ClassId × FieldType)} {cI cZ cO cJ : ClassId} {gs : JP} {n : Nat} {S : PS} {v0 : Nat} {v1 : Int32} {r : Int32} (hl : l.stackTraces = false) (hT : tys = jTy cI cZ cO cJ) (h : fX6_proofAnew n S v0 v1 = some (.inr r)) : CX l (GP gs) D tys yX6_proofAnew wsX6_proofAnew rmX6_proofAnew [.ref v0, .int v1] (pW cI cO S) (fun ov w2 => ov = some (.int r) ∧ w2 = (pW cI cO S)) (fun _ _ => False) := by
  refine CX_of (cc := cX6_proofAnew) (maxL := 2) (ret := (some .int)) hl (by decide) rfl (Nat.le_of_ble_eq_true rfl) ?_
  intro X hD hL hT0 hGX hX hQ rI rZ rV rA
  exact sX6_proofAnew (post := fun ov w2 => ov = some (.int r) ∧ w2 = (pW cI cO S)) (px := fun _ _ => False) hX (hT0.trans hT) hGX (rI rfl) hQ (o := .inr r) (fun v9 e9 => by cases e9; exact ⟨rfl, rfl⟩) (fun x9 e9 => nomatch e9) h
set_option maxRecDepth 100000 in
set_option maxHeartbeats 4000000 in
theorem kxX6_proofAnew {l : Launch} {D : va_G} {tys : List (ClassId × FieldType)} {cI cZ cO cJ : ClassId} {gs : JP} {n : Nat} {S : PS} {v0 : Nat} {v1 : Int32} {x9 : Nat} (hl : l.stackTraces = false) (hT : tys = jTy cI cZ cO cJ) (h : fX6_proofAnew n S v0 v1 = some (.inl x9)) : CX l (GP gs) D tys yX6_proofAnew wsX6_proofAnew rmX6_proofAnew [.ref v0, .int v1] (pW cI cO S) (fun _ _ => False) (fun E w2 => E = exN x9 ∧ w2 = (pW cI cO S)) := by
  refine CX_of (cc := cX6_proofAnew) (maxL := 2) (ret := (some .int)) hl (by decide) rfl (Nat.le_of_ble_eq_true rfl) ?_
  intro X hD hL hT0 hGX hX hQ rI rZ rV rA
  exact sX6_proofAnew (post := fun _ _ => False) (px := fun E w2 => E = exN x9 ∧ w2 = (pW cI cO S)) hX (hT0.trans hT) hGX (rI rfl) hQ (o := .inl x9) (fun v9 e9 => nomatch e9) (fun x9 e9 => by cases e9; exact ⟨rfl, rfl⟩) h
/-! X6_needAccount -/
abbrev rmX6_needAccount : Room := { frames := 6, cells := 1, slots := 6, locals := 90 }
theorem hdX6_needAccount : yX6_needAccount.cls ≠ "java/lang/invoke/MethodHandle" ∧ yX6_needAccount.cls ≠ "java/lang/invoke/VarHandle" ∧ (parseMethodDescriptor yX6_needAccount.desc).map (fun d => d.parameters.length) = some 1 := by decide +kernel
theorem tkX6_needAccount_IA : Cond.classLink "Postlint" 41 "java/lang/IllegalArgumentException" ∈ wsX6_needAccount ∧ Cond.initialized "java/lang/IllegalArgumentException" ∈ wsX6_needAccount := by decide +kernel
theorem taX6_needAccount_IA : ∀ w ∈ (vx_atS "Postlint" 45 "java/lang/IllegalArgumentException" ["java/lang/RuntimeException", "java/lang/Exception"]).filter goodWord, w ∈ wsX6_needAccount := fun _ h => List.mem_cons_of_mem _ (List.mem_append_right _ h)
def fX6_needAccount (v0 : Int32) : Option (Nat ⊕ Unit) := (if v0 < 0 then some (Sum.inl 0) else (if v0 < (8 : Int32) then some (Sum.inr ()) else some (Sum.inl 0)))
set_option maxRecDepth 100000 in
set_option maxHeartbeats 4000000 in
theorem sX6_needAccount {X : JX} {cI cZ cO cJ : ClassId} {gs : JP} {wv : va_W} {post : Option Value → va_W → Prop} (hX : jOK X cX6_needAccount 1 wsX6_needAccount RX6 rmX6_needAccount) (hT : jT X = jTy cI cZ cO cJ) (hGX : jG X (GP gs)) (hret : jRV X cX6_needAccount rmX6_needAccount post) {w0 : va_W} {px : String → va_W → Prop} (hQ : jXQ X w0 rmX6_needAccount post px) {o : (Nat ⊕ Unit)} (hro : o = .inr () → post none wv) (hrx : ∀ x9 : Nat, o = .inl x9 → px (exN x9) wv) {v0 : Int32} (h : fX6_needAccount v0 = some o) : JW X 0 0 wv 0 [(0, .int v0)] [] := by
  unfold fX6_needAccount at h
  refine jw_iload_n hX dX6_needAccount_0 rfl 0 rfl ?_
  refine jw_if_lt (tgt := 10) hX dX6_needAccount_1 (by decide) (fun hc => ?_) (fun hc => ?_)
  · rw [if_pos hc] at h
    exact jw_throwS (is := 204) (text := "the account is out of range") hX hGX hQ (by decide +kernel) (by decide +kernel) tkX6_needAccount_IA.1 tkX6_needAccount_IA.2 (by decide +kernel) taX6_needAccount_IA tbIA gNc_on tgIA dX6_needAccount_10 dX6_needAccount_13 dX6_needAccount_14 dX6_needAccount_16 dX6_needAccount_19 (Nat.le_of_ble_eq_true rfl) (Nat.le_of_ble_eq_true rfl) (Nat.le_of_ble_eq_true rfl) (Nat.le_of_ble_eq_true rfl) (hrx _ (Option.some.inj h).symm)
  · rw [if_neg hc] at h
    refine jw_iload_n hX dX6_needAccount_4 rfl 0 rfl ?_
    refine jw_bipush (v := (8 : Int32)) hX dX6_needAccount_5 (by decide) ?_
    refine jw_icmp_lt (tgt := 20) hX dX6_needAccount_7 (by decide) (fun hc => ?_) (fun hc => ?_)
    · rw [if_pos hc] at h
      exact hret _ _ _ _ _ (by decide) (by decide) dX6_needAccount_20 (hro (Option.some.inj h).symm)
    · rw [if_neg hc] at h
      exact jw_throwS (is := 204) (text := "the account is out of range") hX hGX hQ (by decide +kernel) (by decide +kernel) tkX6_needAccount_IA.1 tkX6_needAccount_IA.2 (by decide +kernel) taX6_needAccount_IA tbIA gNc_on tgIA dX6_needAccount_10 dX6_needAccount_13 dX6_needAccount_14 dX6_needAccount_16 dX6_needAccount_19 (Nat.le_of_ble_eq_true rfl) (Nat.le_of_ble_eq_true rfl) (Nat.le_of_ble_eq_true rfl) (Nat.le_of_ble_eq_true rfl) (hrx _ (Option.some.inj h).symm)
set_option maxRecDepth 100000 in
set_option maxHeartbeats 4000000 in
theorem kX6_needAccount {l : Launch} {D : va_G} {tys : List (ClassId × FieldType)} {cI cZ cO cJ : ClassId} {gs : JP} {wv : va_W} {v0 : Int32} (hl : l.stackTraces = false) (hT : tys = jTy cI cZ cO cJ) (h : fX6_needAccount v0 = some (.inr ())) : CX l (GP gs) D tys yX6_needAccount wsX6_needAccount rmX6_needAccount [.int v0] wv (fun ov w2 => ov = none ∧ w2 = wv) (fun _ _ => False) := by
  refine CX_of (cc := cX6_needAccount) (maxL := 1) (ret := none) hl (by decide) rfl (Nat.le_of_ble_eq_true rfl) ?_
  intro X hD hL hT0 hGX hX hQ rI rZ rV rA
  exact sX6_needAccount (post := fun ov w2 => ov = none ∧ w2 = wv) (px := fun _ _ => False) hX (hT0.trans hT) hGX (rV rfl) hQ (o := .inr ()) (fun e9 => by cases e9; exact ⟨rfl, rfl⟩) (fun x9 e9 => nomatch e9) h
set_option maxRecDepth 100000 in
set_option maxHeartbeats 4000000 in
theorem kxX6_needAccount {l : Launch} {D : va_G} {tys : List (ClassId × FieldType)} {cI cZ cO cJ : ClassId} {gs : JP} {wv : va_W} {v0 : Int32} {x9 : Nat} (hl : l.stackTraces = false) (hT : tys = jTy cI cZ cO cJ) (h : fX6_needAccount v0 = some (.inl x9)) : CX l (GP gs) D tys yX6_needAccount wsX6_needAccount rmX6_needAccount [.int v0] wv (fun _ _ => False) (fun E w2 => E = exN x9 ∧ w2 = wv) := by
  refine CX_of (cc := cX6_needAccount) (maxL := 1) (ret := none) hl (by decide) rfl (Nat.le_of_ble_eq_true rfl) ?_
  intro X hD hL hT0 hGX hX hQ rI rZ rV rA
  exact sX6_needAccount (post := fun _ _ => False) (px := fun E w2 => E = exN x9 ∧ w2 = wv) hX (hT0.trans hT) hGX (rV rfl) hQ (o := .inl x9) (fun e9 => nomatch e9) (fun x9 e9 => by cases e9; exact ⟨rfl, rfl⟩) h
/-! X6_gets -/
abbrev rmX6_gets : Room := { frames := 7, cells := 2, slots := 12, locals := 111 }
theorem hdX6_gets : yX6_gets.cls = RX6 ∧ yX6_gets.cls ≠ "java/lang/invoke/MethodHandle" ∧ yX6_gets.cls ≠ "java/lang/invoke/VarHandle" ∧ (parseMethodDescriptor yX6_gets.desc).map (fun d => d.parameters.length) = some 2 := by decide +kernel
def fX6_gets (S : PS) (v0 : Nat) (v1 : Int32) (v2 : Int32) : Option (Nat ⊕ Int32) := chk (okP S v0 6) (bS1 (fX6_entryAt S v0 v1) (fun ex => some (Sum.inl ex)) (fun r2 => bS0 (fX6_needAccount v2) (fun ex => some (Sum.inl ex)) (fun _ => chk (okP S r2 2) (bP (fX1_amountOf S r2 v2) (fun r12 => some (Sum.inr r12))))))
set_option maxRecDepth 100000 in
set_option maxHeartbeats 4000000 in
theorem sX6_gets {X : JX} {cI cZ cO cJ : ClassId} {gs : JP} {S : PS} {post : Option Value → va_W → Prop} (hX : jOK X cX6_gets 4 wsX6_gets RX6 rmX6_gets) (hT : jT X = jTy cI cZ cO cJ) (hGX : jG X (GP gs)) (hret : jRI X cX6_gets rmX6_gets post) {w0 : va_W} {px : String → va_W → Prop} (hQ : jXQ X w0 rmX6_gets post px) {o : (Nat ⊕ Int32)} (hro : ∀ (v9 : Int32), o = .inr v9 → post (some (.int v9)) (pW cI cO S)) (hrx : ∀ x9 : Nat, o = .inl x9 → px (exN x9) (pW cI cO S)) {v0 : Nat} {v1 : Int32} {v2 : Int32} (h : fX6_gets S v0 v1 v2 = some o) : JW X 0 0 (pW cI cO S) 0 [(0, .ref v0), (1, .int v1), (2, .int v2)] [] := by
  unfold fX6_gets at h
  refine jw_aload_n hX dX6_gets_0 rfl 0 rfl ?_
  refine jw_iload_n hX dX6_gets_1 rfl 1 rfl ?_
  obtain ⟨ho2_2, h⟩ := chk_some h
  rcases bS1_some h with ⟨ex, hl2, h⟩ | ⟨r2, hl2, h⟩
  · skip
    exact jw_pVx (As := [.int v1]) hX (GP_ok gs) hGX hQ 1 (kxX6_entryAt (jXQ_tr hQ) hT hl2) gX6_gets_X6_entryAt rfl hdX6_entryAt ⟨by decide, by decide⟩ 6 rfl (by decide) ho2_2 rfl (Nat.le_of_ble_eq_true rfl) dX6_gets_2 ⟨by decide, by decide⟩ (hrx _ (Option.some.inj h).symm)
  · skip
    refine jw_pVXr (As := [.int v1]) hX (GP_ok gs) hGX 1 (kX6_entryAt (jXQ_tr hQ) hT hl2) gX6_gets_X6_entryAt rfl hdX6_entryAt ⟨by decide, by decide⟩ 6 rfl (by decide) ho2_2 rfl (Nat.le_of_ble_eq_true rfl) dX6_gets_2 rfl rfl ⟨by decide, by decide⟩ ?_
    refine jw_astore_n hX [(3, .ref r2), (0, .ref v0), (1, .int v1), (2, .int v2)] dX6_gets_5 rfl (by decide) rfl ?_
    refine jw_iload_n hX dX6_gets_6 rfl 3 rfl ?_
    rcases bS0_some h with ⟨ex, hl7, h⟩ | ⟨hl7, h⟩
    · skip
      exact jw_cSx (As := [.int v2]) hX (GP_ok gs) hGX hQ 1 (kxX6_needAccount (jXQ_tr hQ) hT hl7) gX6_gets_X6_needAccount rfl hdX6_needAccount ⟨by decide, by decide⟩ rfl (Nat.le_of_ble_eq_true rfl) dX6_gets_7 ⟨by decide, by decide⟩ (hrx _ (Option.some.inj h).symm)
    · skip
      refine jw_cSXv (As := [.int v2]) hX (GP_ok gs) hGX 1 (kX6_needAccount (jXQ_tr hQ) hT hl7) gX6_gets_X6_needAccount rfl hdX6_needAccount ⟨by decide, by decide⟩ rfl (Nat.le_of_ble_eq_true rfl) dX6_gets_7 rfl rfl ⟨by decide, by decide⟩ ?_
      refine jw_aload_n hX dX6_gets_10 rfl 0 rfl ?_
      refine jw_iload_n hX dX6_gets_11 rfl 3 rfl ?_
      obtain ⟨ho12_2, h⟩ := chk_some h
      obtain ⟨r12, hc12, h⟩ := bP_some h
      refine jw_pVi (As := [.int v2]) hX (GP_ok gs) hGX 1 (kX1_amountOf hT hc12) gX6_gets_X1_amountOf rfl hdX1_amountOf ⟨by decide, by decide⟩ 2 rfl (by decide) ho12_2 rfl (Nat.le_of_ble_eq_true rfl) dX6_gets_12 rfl rfl ⟨by decide, by decide⟩ ?_
      exact hret _ _ _ _ _ _ (by decide) (by decide) dX6_gets_15 (hro _ (Option.some.inj h).symm)
set_option maxRecDepth 100000 in
set_option maxHeartbeats 4000000 in
theorem kX6_gets {l : Launch} {D : va_G} {tys : List (ClassId × FieldType)} {cI cZ cO cJ : ClassId} {gs : JP} {S : PS} {v0 : Nat} {v1 : Int32} {v2 : Int32} {r : Int32} (hl : l.stackTraces = false) (hT : tys = jTy cI cZ cO cJ) (h : fX6_gets S v0 v1 v2 = some (.inr r)) : CX l (GP gs) D tys yX6_gets wsX6_gets rmX6_gets [.ref v0, .int v1, .int v2] (pW cI cO S) (fun ov w2 => ov = some (.int r) ∧ w2 = (pW cI cO S)) (fun _ _ => False) := by
  refine CX_of (cc := cX6_gets) (maxL := 4) (ret := (some .int)) hl (by decide) rfl (Nat.le_of_ble_eq_true rfl) ?_
  intro X hD hL hT0 hGX hX hQ rI rZ rV rA
  exact sX6_gets (post := fun ov w2 => ov = some (.int r) ∧ w2 = (pW cI cO S)) (px := fun _ _ => False) hX (hT0.trans hT) hGX (rI rfl) hQ (o := .inr r) (fun v9 e9 => by cases e9; exact ⟨rfl, rfl⟩) (fun x9 e9 => nomatch e9) h
set_option maxRecDepth 100000 in
set_option maxHeartbeats 4000000 in
theorem kxX6_gets {l : Launch} {D : va_G} {tys : List (ClassId × FieldType)} {cI cZ cO cJ : ClassId} {gs : JP} {S : PS} {v0 : Nat} {v1 : Int32} {v2 : Int32} {x9 : Nat} (hl : l.stackTraces = false) (hT : tys = jTy cI cZ cO cJ) (h : fX6_gets S v0 v1 v2 = some (.inl x9)) : CX l (GP gs) D tys yX6_gets wsX6_gets rmX6_gets [.ref v0, .int v1, .int v2] (pW cI cO S) (fun _ _ => False) (fun E w2 => E = exN x9 ∧ w2 = (pW cI cO S)) := by
  refine CX_of (cc := cX6_gets) (maxL := 4) (ret := (some .int)) hl (by decide) rfl (Nat.le_of_ble_eq_true rfl) ?_
  intro X hD hL hT0 hGX hX hQ rI rZ rV rA
  exact sX6_gets (post := fun _ _ => False) (px := fun E w2 => E = exN x9 ∧ w2 = (pW cI cO S)) hX (hT0.trans hT) hGX (rI rfl) hQ (o := .inl x9) (fun v9 e9 => nomatch e9) (fun x9 e9 => by cases e9; exact ⟨rfl, rfl⟩) h
/-! X6_sum -/
abbrev rmX6_sum : Room := { frames := 7, cells := 2, slots := 12, locals := 111 }
theorem hdX6_sum : yX6_sum.cls = RX6 ∧ yX6_sum.cls ≠ "java/lang/invoke/MethodHandle" ∧ yX6_sum.cls ≠ "java/lang/invoke/VarHandle" ∧ (parseMethodDescriptor yX6_sum.desc).map (fun d => d.parameters.length) = some 2 := by decide +kernel
def fX6_sum_J10 (n : Nat) (S : PS) (v0 : Nat) (v1 : Int32) (v2 : Int32) : Option (Nat ⊕ Int32) := bS0 (fX6_needAccount v2) (fun ex => some (Sum.inl ex)) (fun _ => chk (okP S v0 6) (bP (fX6_sumUpTo n S v0 v1 v2) (fun r17 => some (Sum.inr r17))))
def fX6_sum (n : Nat) (S : PS) (v0 : Nat) (v1 : Int32) (v2 : Int32) : Option (Nat ⊕ Int32) := (if v1 = (-1 : Int32) then fX6_sum_J10 n S v0 v1 v2 else chk (okP S v0 6) (bS0 (fX6_needEntry S v0 v1) (fun ex => some (Sum.inl ex)) (fun _ => fX6_sum_J10 n S v0 v1 v2)))
set_option maxRecDepth 100000 in
set_option maxHeartbeats 4000000 in
theorem sX6_sum_J10 {X : JX} {cI cZ cO cJ : ClassId} {gs : JP} {n : Nat} {S : PS} {post : Option Value → va_W → Prop} (hX : jOK X cX6_sum 3 wsX6_sum RX6 rmX6_sum) (hT : jT X = jTy cI cZ cO cJ) (hGX : jG X (GP gs)) (hret : jRI X cX6_sum rmX6_sum post) {w0 : va_W} {px : String → va_W → Prop} (hQ : jXQ X w0 rmX6_sum post px) {o : (Nat ⊕ Int32)} {v0 : Nat} {v1 : Int32} {v2 : Int32}   (hro : ∀ (v9 : Int32), o = .inr v9 → post (some (.int v9)) (pW cI cO S)) (hrx : ∀ x9 : Nat, o = .inl x9 → px (exN x9) (pW cI cO S)) (h : fX6_sum_J10 n S v0 v1 v2 = some o) : JW X 1 6 (pW cI cO S) 10 [(0, .ref v0), (1, .int v1), (2, .int v2)] [] := by
  unfold fX6_sum_J10 at h
  refine jw_iload_n hX dX6_sum_10 rfl 2 rfl ?_
  rcases bS0_some h with ⟨ex, hl11, h⟩ | ⟨hl11, h⟩
  · skip
    exact jw_cSx (As := [.int v2]) hX (GP_ok gs) hGX hQ 1 (kxX6_needAccount (jXQ_tr hQ) hT hl11) gX6_sum_X6_needAccount rfl hdX6_needAccount ⟨by decide, by decide⟩ rfl (Nat.le_of_ble_eq_true rfl) dX6_sum_11 ⟨by decide, by decide⟩ (hrx _ (Option.some.inj h).symm)
  · skip
    refine jw_cSXv (As := [.int v2]) hX (GP_ok gs) hGX 1 (kX6_needAccount (jXQ_tr hQ) hT hl11) gX6_sum_X6_needAccount rfl hdX6_needAccount ⟨by decide, by decide⟩ rfl (Nat.le_of_ble_eq_true rfl) dX6_sum_11 rfl rfl ⟨by decide, by decide⟩ ?_
    refine jw_aload_n hX dX6_sum_14 rfl 0 rfl ?_
    refine jw_iload_n hX dX6_sum_15 rfl 1 rfl ?_
    refine jw_iload_n hX dX6_sum_16 rfl 2 rfl ?_
    obtain ⟨ho17_3, h⟩ := chk_some h
    obtain ⟨r17, hc17, h⟩ := bP_some h
    refine jw_pVi (As := [.int v1, .int v2]) hX (GP_ok gs) hGX 2 (kX6_sumUpTo hT hc17) gX6_sum_X6_sumUpTo rfl hdX6_sumUpTo ⟨by decide, by decide⟩ 6 rfl (by decide) ho17_3 rfl (Nat.le_of_ble_eq_true rfl) dX6_sum_17 rfl rfl ⟨by decide, by decide⟩ ?_
    exact hret _ _ _ _ _ _ (by decide) (by decide) dX6_sum_20 (hro _ (Option.some.inj h).symm)
set_option maxRecDepth 100000 in
set_option maxHeartbeats 4000000 in
theorem sX6_sum {X : JX} {cI cZ cO cJ : ClassId} {gs : JP} {n : Nat} {S : PS} {post : Option Value → va_W → Prop} (hX : jOK X cX6_sum 3 wsX6_sum RX6 rmX6_sum) (hT : jT X = jTy cI cZ cO cJ) (hGX : jG X (GP gs)) (hret : jRI X cX6_sum rmX6_sum post) {w0 : va_W} {px : String → va_W → Prop} (hQ : jXQ X w0 rmX6_sum post px) {o : (Nat ⊕ Int32)} (hro : ∀ (v9 : Int32), o = .inr v9 → post (some (.int v9)) (pW cI cO S)) (hrx : ∀ x9 : Nat, o = .inl x9 → px (exN x9) (pW cI cO S)) {v0 : Nat} {v1 : Int32} {v2 : Int32} (h : fX6_sum n S v0 v1 v2 = some o) : JW X 0 0 (pW cI cO S) 0 [(0, .ref v0), (1, .int v1), (2, .int v2)] [] := by
  unfold fX6_sum at h
  refine jw_iload_n hX dX6_sum_0 rfl 1 rfl ?_
  refine jw_iconst (v := (-1 : Int32)) hX dX6_sum_1 (by decide) ?_
  refine jw_icmp_eq (tgt := 10) hX dX6_sum_2 (by decide) (fun hc => ?_) (fun hc => ?_)
  · rw [if_pos hc] at h
    refine jw_widen 1 6 (by decide) (by decide) ?_
    exact sX6_sum_J10 hX hT hGX hret hQ hro hrx h
  · rw [if_neg hc] at h
    refine jw_aload_n hX dX6_sum_5 rfl 0 rfl ?_
    refine jw_iload_n hX dX6_sum_6 rfl 1 rfl ?_
    obtain ⟨ho7_2, h⟩ := chk_some h
    rcases bS0_some h with ⟨ex, hl7, h⟩ | ⟨hl7, h⟩
    · skip
      exact jw_pVx (As := [.int v1]) hX (GP_ok gs) hGX hQ 1 (kxX6_needEntry (jXQ_tr hQ) hT hl7) gX6_sum_X6_needEntry rfl hdX6_needEntry ⟨by decide, by decide⟩ 6 rfl (by decide) ho7_2 rfl (Nat.le_of_ble_eq_true rfl) dX6_sum_7 ⟨by decide, by decide⟩ (hrx _ (Option.some.inj h).symm)
    · skip
      refine jw_pVXv (As := [.int v1]) hX (GP_ok gs) hGX 1 (kX6_needEntry (jXQ_tr hQ) hT hl7) gX6_sum_X6_needEntry rfl hdX6_needEntry ⟨by decide, by decide⟩ 6 rfl (by decide) ho7_2 rfl (Nat.le_of_ble_eq_true rfl) dX6_sum_7 rfl rfl ⟨by decide, by decide⟩ ?_
      exact sX6_sum_J10 hX hT hGX hret hQ hro hrx h
set_option maxRecDepth 100000 in
set_option maxHeartbeats 4000000 in
theorem kX6_sum {l : Launch} {D : va_G} {tys : List (ClassId × FieldType)} {cI cZ cO cJ : ClassId} {gs : JP} {n : Nat} {S : PS} {v0 : Nat} {v1 : Int32} {v2 : Int32} {r : Int32} (hl : l.stackTraces = false) (hT : tys = jTy cI cZ cO cJ) (h : fX6_sum n S v0 v1 v2 = some (.inr r)) : CX l (GP gs) D tys yX6_sum wsX6_sum rmX6_sum [.ref v0, .int v1, .int v2] (pW cI cO S) (fun ov w2 => ov = some (.int r) ∧ w2 = (pW cI cO S)) (fun _ _ => False) := by
  refine CX_of (cc := cX6_sum) (maxL := 3) (ret := (some .int)) hl (by decide) rfl (Nat.le_of_ble_eq_true rfl) ?_
  intro X hD hL hT0 hGX hX hQ rI rZ rV rA
  exact sX6_sum (post := fun ov w2 => ov = some (.int r) ∧ w2 = (pW cI cO S)) (px := fun _ _ => False) hX (hT0.trans hT) hGX (rI rfl) hQ (o := .inr r) (fun v9 e9 => by cases e9; exact ⟨rfl, rfl⟩) (fun x9 e9 => nomatch e9) h
set_option maxRecDepth 100000 in
set_option maxHeartbeats 4000000 in
theorem kxX6_sum {l : Launch} {D : va_G} {tys : List (ClassId × FieldType)} {cI cZ cO cJ : ClassId} {gs : JP} {n : Nat} {S : PS} {v0 : Nat} {v1 : Int32} {v2 : Int32} {x9 : Nat} (hl : l.stackTraces = false) (hT : tys = jTy cI cZ cO cJ) (h : fX6_sum n S v0 v1 v2 = some (.inl x9)) : CX l (GP gs) D tys yX6_sum wsX6_sum rmX6_sum [.ref v0, .int v1, .int v2] (pW cI cO S) (fun _ _ => False) (fun E w2 => E = exN x9 ∧ w2 = (pW cI cO S)) := by
  refine CX_of (cc := cX6_sum) (maxL := 3) (ret := (some .int)) hl (by decide) rfl (Nat.le_of_ble_eq_true rfl) ?_
  intro X hD hL hT0 hGX hX hQ rI rZ rV rA
  exact sX6_sum (post := fun _ _ => False) (px := fun E w2 => E = exN x9 ∧ w2 = (pW cI cO S)) hX (hT0.trans hT) hGX (rI rfl) hQ (o := .inl x9) (fun v9 e9 => nomatch e9) (fun x9 e9 => by cases e9; exact ⟨rfl, rfl⟩) h
/-! X6_doubts -/
abbrev rmX6_doubts : Room := { frames := 7, cells := 1, slots := 6, locals := 111 }
theorem hdX6_doubts : yX6_doubts.cls = RX6 ∧ yX6_doubts.cls ≠ "java/lang/invoke/MethodHandle" ∧ yX6_doubts.cls ≠ "java/lang/invoke/VarHandle" ∧ (parseMethodDescriptor yX6_doubts.desc).map (fun d => d.parameters.length) = some 1 := by decide +kernel
theorem lkX6_doubts_35 : Cond.fieldLink RX6 35 RX6 (TX6 4).2.1 (TX6 4).2.2.1 ∈ wsX6_doubts := by decide +kernel
theorem inX6_doubts_6 : ∀ w ∈ wsX60, w ∈ wsX6_doubts := fun _ h => List.mem_cons_of_mem _ (List.mem_append_left _ (List.mem_append_left _ (List.mem_append_left _ (List.mem_append_left _ (List.mem_append_right _ h)))))
theorem ckX6_doubts_126 : Cond.classLink RX6 126 RX3 ∈ wsX6_doubts := by decide +kernel
def fX6_doubts_L9 (n : Nat) : Nat → PS → Nat → Int32 → Int32 → Int32 → Option (Int32)
  | 0, _, _, _, _, _ => none
  | k + 1, S, v0, v1, v2, v3 => chk (okP S v0 6) (bP (sR S 64 v0) (fun q11 => chk (okP S q11 0) (bP (fJx4a65c_size_8abf5 S q11) (fun r14 => (if r14 ≤ v3 then some v2 else chk (okP S v0 6) (bP (sR S 64 v0) (fun q23 => chk (okP S q23 0) (bP (fJx4a65c_get_915e3 S q23 v3) (fun r27 => chk (okP S r27 4) (chk (okP S v0 6) (bP (fX6_isDoubtedBy n S v0 v1 r27) (fun r33 => (if r33 = 0 then fX6_doubts_L9 n k S v0 v1 v2 (v3 + (1 : Int32)) else bnd ((v2 ||| ((1 : Int32) <<< (v3 &&& 31)))) (fun y44 => fX6_doubts_L9 n k S v0 v1 y44 (v3 + (1 : Int32))))))))))))))))
def fX6_doubts (n : Nat) (S : PS) (v0 : Nat) (v1 : Int32) : Option (Nat ⊕ Int32) := chk (okP S v0 6) (bS0 (fX6_needEntry S v0 v1) (fun ex => some (Sum.inl ex)) (fun _ => bL1 (fX6_doubts_L9 n n S v0 v1 (0 : Int32) (0 : Int32)) (fun x2_9 => some (Sum.inr x2_9))))
set_option maxRecDepth 100000 in
set_option maxHeartbeats 4000000 in
theorem sX6_doubts_L9 {X : JX} {cI cZ cO cJ : ClassId} {gs : JP} {n : Nat} {S : PS} {post : Option Value → va_W → Prop} (hX : jOK X cX6_doubts 4 wsX6_doubts RX6 rmX6_doubts) (hT : jT X = jTy cI cZ cO cJ) (hGX : jG X (GP gs)) (hret : jRI X cX6_doubts rmX6_doubts post) {w0 : va_W} {px : String → va_W → Prop} (hQ : jXQ X w0 rmX6_doubts post px) {o : (Int32)} (hex : ∀ (x2 : Int32), o = x2 → JW X 1 6 (pW cI cO S) 51 [(2, .int x2)] [])  : ∀ (k : Nat) (v0 : Nat) (v1 : Int32) (v2 : Int32) (v3 : Int32), fX6_doubts_L9 n k S v0 v1 v2 v3 = some o → JW X 1 6 (pW cI cO S) 9 [(0, .ref v0), (1, .int v1), (2, .int v2), (3, .int v3)] [] := by
  intro k
  induction k with
  | zero => intro v0 v1 v2 v3 h; cases h
  | succ k hrec0 =>
    intro v0 v1 v2 v3 h
    unfold fX6_doubts_L9 at h
    refine jw_iload_n hX dX6_doubts_9 rfl 3 rfl ?_
    refine jw_aload_n hX dX6_doubts_10 rfl 0 rfl ?_
    obtain ⟨ho11_2, h⟩ := chk_some h
    obtain ⟨q11, hr11, h⟩ := bP_some h
    refine jw_pgetR hX hT 6 4 rfl (by decide) (by decide) rfl inX6_doubts_6 rfl lkX6_doubts_35 ho11_2 hr11 dX6_doubts_11 ?_
    obtain ⟨ho14_5, h⟩ := chk_some h
    obtain ⟨r14, hc14, h⟩ := bP_some h
    refine jw_pVi (As := []) hX (GP_ok gs) hGX 0 (kJx4a65c_size_8abf5 hT hc14) gX6_doubts_Jx4a65c_size_8abf5 rfl hdJx4a65c_size_8abf5 ⟨by decide, by decide⟩ 0 rfl (by decide) ho14_5 rfl (Nat.le_of_ble_eq_true rfl) dX6_doubts_14 rfl rfl ⟨by decide, by decide⟩ ?_
    refine jw_icmp_ge (tgt := 51) hX dX6_doubts_17 (by decide) (fun hc => ?_) (fun hc => ?_)
    · rw [if_pos hc] at h
      refine jw_sub [2] [(2, .int v2)] rfl ?_
      exact hex _ (Option.some.inj h).symm
    · rw [if_neg hc] at h
      refine jw_aload_n hX dX6_doubts_20 rfl 0 rfl ?_
      refine jw_iload_n hX dX6_doubts_21 rfl 1 rfl ?_
      refine jw_aload_n hX dX6_doubts_22 rfl 0 rfl ?_
      obtain ⟨ho23_3, h⟩ := chk_some h
      obtain ⟨q23, hr23, h⟩ := bP_some h
      refine jw_pgetR hX hT 6 4 rfl (by decide) (by decide) rfl inX6_doubts_6 rfl lkX6_doubts_35 ho23_3 hr23 dX6_doubts_23 ?_
      refine jw_iload_n hX dX6_doubts_26 rfl 3 rfl ?_
      obtain ⟨ho27_7, h⟩ := chk_some h
      obtain ⟨r27, hc27, h⟩ := bP_some h
      refine jw_pVr (As := [.int v3]) hX (GP_ok gs) hGX 1 (kJx4a65c_get_915e3 hT hc27) gX6_doubts_Jx4a65c_get_915e3 rfl hdJx4a65c_get_915e3 ⟨by decide, by decide⟩ 0 rfl (by decide) ho27_7 rfl (Nat.le_of_ble_eq_true rfl) dX6_doubts_27 rfl rfl ⟨by decide, by decide⟩ ?_
      obtain ⟨ho30_10, h⟩ := chk_some h
      refine jw_pcast hX hT (k := 4) rfl (by decide) ho30_10 ckX6_doubts_126 (gp_nc hGX (w := .castable RX3 RX3) (by decide +kernel)) dX6_doubts_30 ?_
      obtain ⟨ho33_12, h⟩ := chk_some h
      obtain ⟨r33, hc33, h⟩ := bP_some h
      refine jw_pVi (As := [.int v1, .ref r27]) hX (GP_ok gs) hGX 2 (kX6_isDoubtedBy hT hc33) gX6_doubts_X6_isDoubtedBy rfl hdX6_isDoubtedBy ⟨by decide, by decide⟩ 6 rfl (by decide) ho33_12 rfl (Nat.le_of_ble_eq_true rfl) dX6_doubts_33 rfl rfl ⟨by decide, by decide⟩ ?_
      refine jw_if_eq (tgt := 45) hX dX6_doubts_36 (by decide) (fun hc => ?_) (fun hc => ?_)
      · rw [if_pos hc] at h
        refine jw_iinc (v := (v3 + (1 : Int32))) hX [(3, .int (v3 + (1 : Int32))), (0, .ref v0), (1, .int v1), (2, .int v2)] dX6_doubts_45 3 rfl (by first | rfl | (congr 1; decide)) (by decide) rfl ?_
        refine jw_goto (tgt := 9) hX dX6_doubts_48 (by decide) ?_
        refine jw_sub [1, 2, 3, 0] [(0, .ref v0), (1, .int v1), (2, .int v2), (3, .int (v3 + (1 : Int32)))] rfl ?_
        exact hrec0 _ _ _ _ h
      · rw [if_neg hc] at h
        refine jw_iload_n hX dX6_doubts_39 rfl 2 rfl ?_
        refine jw_iconst (v := (1 : Int32)) hX dX6_doubts_40 (by decide) ?_
        refine jw_iload_n hX dX6_doubts_41 rfl 3 rfl ?_
        refine jw_ishl hX dX6_doubts_42 ?_
        refine jw_ior hX dX6_doubts_43 ?_
        refine jw_topi (fun y44 e44 => ?_)
        replace h := bnd_some h y44 e44
        clear e44
        refine jw_istore_n hX [(2, .int y44), (0, .ref v0), (1, .int v1), (3, .int v3)] dX6_doubts_44 rfl (by decide) rfl ?_
        refine jw_iinc (v := (v3 + (1 : Int32))) hX [(3, .int (v3 + (1 : Int32))), (2, .int y44), (0, .ref v0), (1, .int v1)] dX6_doubts_45 3 rfl (by first | rfl | (congr 1; decide)) (by decide) rfl ?_
        refine jw_goto (tgt := 9) hX dX6_doubts_48 (by decide) ?_
        refine jw_sub [2, 3, 1, 0] [(0, .ref v0), (1, .int v1), (2, .int y44), (3, .int (v3 + (1 : Int32)))] rfl ?_
        exact hrec0 _ _ _ _ h
set_option maxRecDepth 100000 in
set_option maxHeartbeats 4000000 in
theorem sX6_doubts {X : JX} {cI cZ cO cJ : ClassId} {gs : JP} {n : Nat} {S : PS} {post : Option Value → va_W → Prop} (hX : jOK X cX6_doubts 4 wsX6_doubts RX6 rmX6_doubts) (hT : jT X = jTy cI cZ cO cJ) (hGX : jG X (GP gs)) (hret : jRI X cX6_doubts rmX6_doubts post) {w0 : va_W} {px : String → va_W → Prop} (hQ : jXQ X w0 rmX6_doubts post px) {o : (Nat ⊕ Int32)} (hro : ∀ (v9 : Int32), o = .inr v9 → post (some (.int v9)) (pW cI cO S)) (hrx : ∀ x9 : Nat, o = .inl x9 → px (exN x9) (pW cI cO S)) {v0 : Nat} {v1 : Int32} (h : fX6_doubts n S v0 v1 = some o) : JW X 0 0 (pW cI cO S) 0 [(0, .ref v0), (1, .int v1)] [] := by
  unfold fX6_doubts at h
  refine jw_aload_n hX dX6_doubts_0 rfl 0 rfl ?_
  refine jw_iload_n hX dX6_doubts_1 rfl 1 rfl ?_
  obtain ⟨ho2_2, h⟩ := chk_some h
  rcases bS0_some h with ⟨ex, hl2, h⟩ | ⟨hl2, h⟩
  · skip
    exact jw_pVx (As := [.int v1]) hX (GP_ok gs) hGX hQ 1 (kxX6_needEntry (jXQ_tr hQ) hT hl2) gX6_doubts_X6_needEntry rfl hdX6_needEntry ⟨by decide, by decide⟩ 6 rfl (by decide) ho2_2 rfl (Nat.le_of_ble_eq_true rfl) dX6_doubts_2 ⟨by decide, by decide⟩ (hrx _ (Option.some.inj h).symm)
  · skip
    refine jw_pVXv (As := [.int v1]) hX (GP_ok gs) hGX 1 (kX6_needEntry (jXQ_tr hQ) hT hl2) gX6_doubts_X6_needEntry rfl hdX6_needEntry ⟨by decide, by decide⟩ 6 rfl (by decide) ho2_2 rfl (Nat.le_of_ble_eq_true rfl) dX6_doubts_2 rfl rfl ⟨by decide, by decide⟩ ?_
    refine jw_iconst (v := (0 : Int32)) hX dX6_doubts_5 (by decide) ?_
    refine jw_istore_n hX [(2, .int (0 : Int32)), (0, .ref v0), (1, .int v1)] dX6_doubts_6 rfl (by decide) rfl ?_
    refine jw_iconst (v := (0 : Int32)) hX dX6_doubts_7 (by decide) ?_
    refine jw_istore_n hX [(3, .int (0 : Int32)), (2, .int (0 : Int32)), (0, .ref v0), (1, .int v1)] dX6_doubts_8 rfl (by decide) rfl ?_
    refine jw_sub [2, 3, 1, 0] [(0, .ref v0), (1, .int v1), (2, .int (0 : Int32)), (3, .int (0 : Int32))] rfl ?_
    obtain ⟨x2_9, hl9, h⟩ := bL1_some h
    refine sX6_doubts_L9 hX hT hGX hret hQ (o := x2_9) (fun q0 e9 => ?_) n _ _ _ _ hl9
    cases e9
    refine jw_iload_n hX dX6_doubts_51 rfl 0 rfl ?_
    exact hret _ _ _ _ _ _ (by decide) (by decide) dX6_doubts_52 (hro _ (Option.some.inj h).symm)
set_option maxRecDepth 100000 in
set_option maxHeartbeats 4000000 in
theorem kX6_doubts {l : Launch} {D : va_G} {tys : List (ClassId × FieldType)} {cI cZ cO cJ : ClassId} {gs : JP} {n : Nat} {S : PS} {v0 : Nat} {v1 : Int32} {r : Int32} (hl : l.stackTraces = false) (hT : tys = jTy cI cZ cO cJ) (h : fX6_doubts n S v0 v1 = some (.inr r)) : CX l (GP gs) D tys yX6_doubts wsX6_doubts rmX6_doubts [.ref v0, .int v1] (pW cI cO S) (fun ov w2 => ov = some (.int r) ∧ w2 = (pW cI cO S)) (fun _ _ => False) := by
  refine CX_of (cc := cX6_doubts) (maxL := 4) (ret := (some .int)) hl (by decide) rfl (Nat.le_of_ble_eq_true rfl) ?_
  intro X hD hL hT0 hGX hX hQ rI rZ rV rA
  exact sX6_doubts (post := fun ov w2 => ov = some (.int r) ∧ w2 = (pW cI cO S)) (px := fun _ _ => False) hX (hT0.trans hT) hGX (rI rfl) hQ (o := .inr r) (fun v9 e9 => by cases e9; exact ⟨rfl, rfl⟩) (fun x9 e9 => nomatch e9) h
set_option maxRecDepth 100000 in
set_option maxHeartbeats 4000000 in
theorem kxX6_doubts {l : Launch} {D : va_G} {tys : List (ClassId × FieldType)} {cI cZ cO cJ : ClassId} {gs : JP} {n : Nat} {S : PS} {v0 : Nat} {v1 : Int32} {x9 : Nat} (hl : l.stackTraces = false) (hT : tys = jTy cI cZ cO cJ) (h : fX6_doubts n S v0 v1 = some (.inl x9)) : CX l (GP gs) D tys yX6_doubts wsX6_doubts rmX6_doubts [.ref v0, .int v1] (pW cI cO S) (fun _ _ => False) (fun E w2 => E = exN x9 ∧ w2 = (pW cI cO S)) := by
  refine CX_of (cc := cX6_doubts) (maxL := 4) (ret := (some .int)) hl (by decide) rfl (Nat.le_of_ble_eq_true rfl) ?_
  intro X hD hL hT0 hGX hX hQ rI rZ rV rA
  exact sX6_doubts (post := fun _ _ => False) (px := fun E w2 => E = exN x9 ∧ w2 = (pW cI cO S)) hX (hT0.trans hT) hGX (rI rfl) hQ (o := .inl x9) (fun v9 e9 => nomatch e9) (fun x9 e9 => by cases e9; exact ⟨rfl, rfl⟩) h
/-! X6_doubted -/
abbrev rmX6_doubted : Room := { frames := 7, cells := 1, slots := 6, locals := 133 }
theorem hdX6_doubted : yX6_doubted.cls = RX6 ∧ yX6_doubted.cls ≠ "java/lang/invoke/MethodHandle" ∧ yX6_doubted.cls ≠ "java/lang/invoke/VarHandle" ∧ (parseMethodDescriptor yX6_doubted.desc).map (fun d => d.parameters.length) = some 1 := by decide +kernel
def fX6_doubted (n : Nat) (S : PS) (v0 : Nat) (v1 : Int32) : Option (Nat ⊕ Int32) := chk (okP S v0 6) (bS1 (fX6_ruleAt S v0 v1) (fun ex => some (Sum.inl ex)) (fun r3 => chk (okP S v0 6) (bP (fX6_countDoubtedBy n S v0 r3) (fun r6 => some (Sum.inr r6)))))
set_option maxRecDepth 100000 in
set_option maxHeartbeats 4000000 in
theorem sX6_doubted {X : JX} {cI cZ cO cJ : ClassId} {gs : JP} {n : Nat} {S : PS} {post : Option Value → va_W → Prop} (hX : jOK X cX6_doubted 2 wsX6_doubted RX6 rmX6_doubted) (hT : jT X = jTy cI cZ cO cJ) (hGX : jG X (GP gs)) (hret : jRI X cX6_doubted rmX6_doubted post) {w0 : va_W} {px : String → va_W → Prop} (hQ : jXQ X w0 rmX6_doubted post px) {o : (Nat ⊕ Int32)} (hro : ∀ (v9 : Int32), o = .inr v9 → post (some (.int v9)) (pW cI cO S)) (hrx : ∀ x9 : Nat, o = .inl x9 → px (exN x9) (pW cI cO S)) {v0 : Nat} {v1 : Int32} (h : fX6_doubted n S v0 v1 = some o) : JW X 0 0 (pW cI cO S) 0 [(0, .ref v0), (1, .int v1)] [] := by
  unfold fX6_doubted at h
  refine jw_aload_n hX dX6_doubted_0 rfl 0 rfl ?_
  refine jw_aload_n hX dX6_doubted_1 rfl 0 rfl ?_
  refine jw_iload_n hX dX6_doubted_2 rfl 1 rfl ?_
  obtain ⟨ho3_3, h⟩ := chk_some h
  rcases bS1_some h with ⟨ex, hl3, h⟩ | ⟨r3, hl3, h⟩
  · skip
    exact jw_pVx (As := [.int v1]) hX (GP_ok gs) hGX hQ 1 (kxX6_ruleAt (jXQ_tr hQ) hT hl3) gX6_doubted_X6_ruleAt rfl hdX6_ruleAt ⟨by decide, by decide⟩ 6 rfl (by decide) ho3_3 rfl (Nat.le_of_ble_eq_true rfl) dX6_doubted_3 ⟨by decide, by decide⟩ (hrx _ (Option.some.inj h).symm)
  · skip
    refine jw_pVXr (As := [.int v1]) hX (GP_ok gs) hGX 1 (kX6_ruleAt (jXQ_tr hQ) hT hl3) gX6_doubted_X6_ruleAt rfl hdX6_ruleAt ⟨by decide, by decide⟩ 6 rfl (by decide) ho3_3 rfl (Nat.le_of_ble_eq_true rfl) dX6_doubted_3 rfl rfl ⟨by decide, by decide⟩ ?_
    obtain ⟨ho6_0, h⟩ := chk_some h
    obtain ⟨r6, hc6, h⟩ := bP_some h
    refine jw_pVi (As := [.ref r3]) hX (GP_ok gs) hGX 1 (kX6_countDoubtedBy hT hc6) gX6_doubted_X6_countDoubtedBy rfl hdX6_countDoubtedBy ⟨by decide, by decide⟩ 6 rfl (by decide) ho6_0 rfl (Nat.le_of_ble_eq_true rfl) dX6_doubted_6 rfl rfl ⟨by decide, by decide⟩ ?_
    exact hret _ _ _ _ _ _ (by decide) (by decide) dX6_doubted_9 (hro _ (Option.some.inj h).symm)
set_option maxRecDepth 100000 in
set_option maxHeartbeats 4000000 in
theorem kX6_doubted {l : Launch} {D : va_G} {tys : List (ClassId × FieldType)} {cI cZ cO cJ : ClassId} {gs : JP} {n : Nat} {S : PS} {v0 : Nat} {v1 : Int32} {r : Int32} (hl : l.stackTraces = false) (hT : tys = jTy cI cZ cO cJ) (h : fX6_doubted n S v0 v1 = some (.inr r)) : CX l (GP gs) D tys yX6_doubted wsX6_doubted rmX6_doubted [.ref v0, .int v1] (pW cI cO S) (fun ov w2 => ov = some (.int r) ∧ w2 = (pW cI cO S)) (fun _ _ => False) := by
  refine CX_of (cc := cX6_doubted) (maxL := 2) (ret := (some .int)) hl (by decide) rfl (Nat.le_of_ble_eq_true rfl) ?_
  intro X hD hL hT0 hGX hX hQ rI rZ rV rA
  exact sX6_doubted (post := fun ov w2 => ov = some (.int r) ∧ w2 = (pW cI cO S)) (px := fun _ _ => False) hX (hT0.trans hT) hGX (rI rfl) hQ (o := .inr r) (fun v9 e9 => by cases e9; exact ⟨rfl, rfl⟩) (fun x9 e9 => nomatch e9) h
set_option maxRecDepth 100000 in
set_option maxHeartbeats 4000000 in
theorem kxX6_doubted {l : Launch} {D : va_G} {tys : List (ClassId × FieldType)} {cI cZ cO cJ : ClassId} {gs : JP} {n : Nat} {S : PS} {v0 : Nat} {v1 : Int32} {x9 : Nat} (hl : l.stackTraces = false) (hT : tys = jTy cI cZ cO cJ) (h : fX6_doubted n S v0 v1 = some (.inl x9)) : CX l (GP gs) D tys yX6_doubted wsX6_doubted rmX6_doubted [.ref v0, .int v1] (pW cI cO S) (fun _ _ => False) (fun E w2 => E = exN x9 ∧ w2 = (pW cI cO S)) := by
  refine CX_of (cc := cX6_doubted) (maxL := 2) (ret := (some .int)) hl (by decide) rfl (Nat.le_of_ble_eq_true rfl) ?_
  intro X hD hL hT0 hGX hX hQ rI rZ rV rA
  exact sX6_doubted (post := fun _ _ => False) (px := fun E w2 => E = exN x9 ∧ w2 = (pW cI cO S)) hX (hT0.trans hT) hGX (rI rfl) hQ (o := .inl x9) (fun v9 e9 => nomatch e9) (fun x9 e9 => by cases e9; exact ⟨rfl, rfl⟩) h
/-! X6_isFrozen -/
abbrev rmX6_isFrozen : Room := { frames := 7, cells := 1, slots := 6, locals := 111 }
theorem hdX6_isFrozen : yX6_isFrozen.cls = RX6 ∧ yX6_isFrozen.cls ≠ "java/lang/invoke/MethodHandle" ∧ yX6_isFrozen.cls ≠ "java/lang/invoke/VarHandle" ∧ (parseMethodDescriptor yX6_isFrozen.desc).map (fun d => d.parameters.length) = some 1 := by decide +kernel
def fX6_isFrozen (n : Nat) (S : PS) (v0 : Nat) (v1 : Int32) : Option (Nat ⊕ Int32) := chk (okP S v0 6) (bS0 (fX6_needEntry S v0 v1) (fun ex => some (Sum.inl ex)) (fun _ => chk (okP S v0 6) (bP (fX6_freezes n S v0 v1) (fun r7 => chk (b01 r7) (some (Sum.inr r7))))))
set_option maxRecDepth 100000 in
set_option maxHeartbeats 4000000 in
theorem sX6_isFrozen {X : JX} {cI cZ cO cJ : ClassId} {gs : JP} {n : Nat} {S : PS} {post : Option Value → va_W → Prop} (hX : jOK X cX6_isFrozen 2 wsX6_isFrozen RX6 rmX6_isFrozen) (hT : jT X = jTy cI cZ cO cJ) (hGX : jG X (GP gs)) (hret : jRZ X cX6_isFrozen rmX6_isFrozen post) {w0 : va_W} {px : String → va_W → Prop} (hQ : jXQ X w0 rmX6_isFrozen post px) {o : (Nat ⊕ Int32)} (hro : ∀ (v9 : Int32), o = .inr v9 → post (some (.int v9)) (pW cI cO S)) (hrx : ∀ x9 : Nat, o = .inl x9 → px (exN x9) (pW cI cO S)) {v0 : Nat} {v1 : Int32} (h : fX6_isFrozen n S v0 v1 = some o) : JW X 0 0 (pW cI cO S) 0 [(0, .ref v0), (1, .int v1)] [] := by
  unfold fX6_isFrozen at h
  refine jw_aload_n hX dX6_isFrozen_0 rfl 0 rfl ?_
  refine jw_iload_n hX dX6_isFrozen_1 rfl 1 rfl ?_
  obtain ⟨ho2_2, h⟩ := chk_some h
  rcases bS0_some h with ⟨ex, hl2, h⟩ | ⟨hl2, h⟩
  · skip
    exact jw_pVx (As := [.int v1]) hX (GP_ok gs) hGX hQ 1 (kxX6_needEntry (jXQ_tr hQ) hT hl2) gX6_isFrozen_X6_needEntry rfl hdX6_needEntry ⟨by decide, by decide⟩ 6 rfl (by decide) ho2_2 rfl (Nat.le_of_ble_eq_true rfl) dX6_isFrozen_2 ⟨by decide, by decide⟩ (hrx _ (Option.some.inj h).symm)
  · skip
    refine jw_pVXv (As := [.int v1]) hX (GP_ok gs) hGX 1 (kX6_needEntry (jXQ_tr hQ) hT hl2) gX6_isFrozen_X6_needEntry rfl hdX6_needEntry ⟨by decide, by decide⟩ 6 rfl (by decide) ho2_2 rfl (Nat.le_of_ble_eq_true rfl) dX6_isFrozen_2 rfl rfl ⟨by decide, by decide⟩ ?_
    refine jw_aload_n hX dX6_isFrozen_5 rfl 0 rfl ?_
    refine jw_iload_n hX dX6_isFrozen_6 rfl 1 rfl ?_
    obtain ⟨ho7_2, h⟩ := chk_some h
    obtain ⟨r7, hc7, h⟩ := bP_some h
    refine jw_pVi (As := [.int v1]) hX (GP_ok gs) hGX 1 (kX6_freezes hT hc7) gX6_isFrozen_X6_freezes rfl hdX6_freezes ⟨by decide, by decide⟩ 6 rfl (by decide) ho7_2 rfl (Nat.le_of_ble_eq_true rfl) dX6_isFrozen_7 rfl rfl ⟨by decide, by decide⟩ ?_
    obtain ⟨hz10, h⟩ := chk_some h
    exact hret _ _ _ _ _ _ (b01_or hz10) (by decide) (by decide) dX6_isFrozen_10 (hro _ (Option.some.inj h).symm)
set_option maxRecDepth 100000 in
set_option maxHeartbeats 4000000 in
theorem kX6_isFrozen {l : Launch} {D : va_G} {tys : List (ClassId × FieldType)} {cI cZ cO cJ : ClassId} {gs : JP} {n : Nat} {S : PS} {v0 : Nat} {v1 : Int32} {r : Int32} (hl : l.stackTraces = false) (hT : tys = jTy cI cZ cO cJ) (h : fX6_isFrozen n S v0 v1 = some (.inr r)) : CX l (GP gs) D tys yX6_isFrozen wsX6_isFrozen rmX6_isFrozen [.ref v0, .int v1] (pW cI cO S) (fun ov w2 => ov = some (.int r) ∧ w2 = (pW cI cO S)) (fun _ _ => False) := by
  refine CX_of (cc := cX6_isFrozen) (maxL := 2) (ret := (some .boolean)) hl (by decide) rfl (Nat.le_of_ble_eq_true rfl) ?_
  intro X hD hL hT0 hGX hX hQ rI rZ rV rA
  exact sX6_isFrozen (post := fun ov w2 => ov = some (.int r) ∧ w2 = (pW cI cO S)) (px := fun _ _ => False) hX (hT0.trans hT) hGX (rZ rfl) hQ (o := .inr r) (fun v9 e9 => by cases e9; exact ⟨rfl, rfl⟩) (fun x9 e9 => nomatch e9) h
set_option maxRecDepth 100000 in
set_option maxHeartbeats 4000000 in
theorem kxX6_isFrozen {l : Launch} {D : va_G} {tys : List (ClassId × FieldType)} {cI cZ cO cJ : ClassId} {gs : JP} {n : Nat} {S : PS} {v0 : Nat} {v1 : Int32} {x9 : Nat} (hl : l.stackTraces = false) (hT : tys = jTy cI cZ cO cJ) (h : fX6_isFrozen n S v0 v1 = some (.inl x9)) : CX l (GP gs) D tys yX6_isFrozen wsX6_isFrozen rmX6_isFrozen [.ref v0, .int v1] (pW cI cO S) (fun _ _ => False) (fun E w2 => E = exN x9 ∧ w2 = (pW cI cO S)) := by
  refine CX_of (cc := cX6_isFrozen) (maxL := 2) (ret := (some .boolean)) hl (by decide) rfl (Nat.le_of_ble_eq_true rfl) ?_
  intro X hD hL hT0 hGX hX hQ rI rZ rV rA
  exact sX6_isFrozen (post := fun _ _ => False) (px := fun E w2 => E = exN x9 ∧ w2 = (pW cI cO S)) hX (hT0.trans hT) hGX (rZ rfl) hQ (o := .inl x9) (fun v9 e9 => nomatch e9) (fun x9 e9 => by cases e9; exact ⟨rfl, rfl⟩) h
/-! X6_holds -/
abbrev rmX6_holds : Room := { frames := 7, cells := 1, slots := 6, locals := 111 }
theorem hdX6_holds : yX6_holds.cls = RX6 ∧ yX6_holds.cls ≠ "java/lang/invoke/MethodHandle" ∧ yX6_holds.cls ≠ "java/lang/invoke/VarHandle" ∧ (parseMethodDescriptor yX6_holds.desc).map (fun d => d.parameters.length) = some 1 := by decide +kernel
def fX6_holds (n : Nat) (S : PS) (v0 : Nat) (v1 : Int32) : Option (Nat ⊕ Int32) := chk (okP S v0 6) (bS1 (fX6_auditAt S v0 v1) (fun ex => some (Sum.inl ex)) (fun r3 => chk (okP S v0 6) (bP (fX6_isProofKept n S v0 r3) (fun r6 => chk (b01 r6) (some (Sum.inr r6))))))
set_option maxRecDepth 100000 in
set_option maxHeartbeats 4000000 in
theorem sX6_holds {X : JX} {cI cZ cO cJ : ClassId} {gs : JP} {n : Nat} {S : PS} {post : Option Value → va_W → Prop} (hX : jOK X cX6_holds 2 wsX6_holds RX6 rmX6_holds) (hT : jT X = jTy cI cZ cO cJ) (hGX : jG X (GP gs)) (hret : jRZ X cX6_holds rmX6_holds post) {w0 : va_W} {px : String → va_W → Prop} (hQ : jXQ X w0 rmX6_holds post px) {o : (Nat ⊕ Int32)} (hro : ∀ (v9 : Int32), o = .inr v9 → post (some (.int v9)) (pW cI cO S)) (hrx : ∀ x9 : Nat, o = .inl x9 → px (exN x9) (pW cI cO S)) {v0 : Nat} {v1 : Int32} (h : fX6_holds n S v0 v1 = some o) : JW X 0 0 (pW cI cO S) 0 [(0, .ref v0), (1, .int v1)] [] := by
  unfold fX6_holds at h
  refine jw_aload_n hX dX6_holds_0 rfl 0 rfl ?_
  refine jw_aload_n hX dX6_holds_1 rfl 0 rfl ?_
  refine jw_iload_n hX dX6_holds_2 rfl 1 rfl ?_
  obtain ⟨ho3_3, h⟩ := chk_some h
  rcases bS1_some h with ⟨ex, hl3, h⟩ | ⟨r3, hl3, h⟩
  · skip
    exact jw_pVx (As := [.int v1]) hX (GP_ok gs) hGX hQ 1 (kxX6_auditAt (jXQ_tr hQ) hT hl3) gX6_holds_X6_auditAt rfl hdX6_auditAt ⟨by decide, by decide⟩ 6 rfl (by decide) ho3_3 rfl (Nat.le_of_ble_eq_true rfl) dX6_holds_3 ⟨by decide, by decide⟩ (hrx _ (Option.some.inj h).symm)
  · skip
    refine jw_pVXr (As := [.int v1]) hX (GP_ok gs) hGX 1 (kX6_auditAt (jXQ_tr hQ) hT hl3) gX6_holds_X6_auditAt rfl hdX6_auditAt ⟨by decide, by decide⟩ 6 rfl (by decide) ho3_3 rfl (Nat.le_of_ble_eq_true rfl) dX6_holds_3 rfl rfl ⟨by decide, by decide⟩ ?_
    obtain ⟨ho6_0, h⟩ := chk_some h
    obtain ⟨r6, hc6, h⟩ := bP_some h
    refine jw_pVi (As := [.ref r3]) hX (GP_ok gs) hGX 1 (kX6_isProofKept hT hc6) gX6_holds_X6_isProofKept rfl hdX6_isProofKept ⟨by decide, by decide⟩ 6 rfl (by decide) ho6_0 rfl (Nat.le_of_ble_eq_true rfl) dX6_holds_6 rfl rfl ⟨by decide, by decide⟩ ?_
    obtain ⟨hz9, h⟩ := chk_some h
    exact hret _ _ _ _ _ _ (b01_or hz9) (by decide) (by decide) dX6_holds_9 (hro _ (Option.some.inj h).symm)
set_option maxRecDepth 100000 in
set_option maxHeartbeats 4000000 in
theorem kX6_holds {l : Launch} {D : va_G} {tys : List (ClassId × FieldType)} {cI cZ cO cJ : ClassId} {gs : JP} {n : Nat} {S : PS} {v0 : Nat} {v1 : Int32} {r : Int32} (hl : l.stackTraces = false) (hT : tys = jTy cI cZ cO cJ) (h : fX6_holds n S v0 v1 = some (.inr r)) : CX l (GP gs) D tys yX6_holds wsX6_holds rmX6_holds [.ref v0, .int v1] (pW cI cO S) (fun ov w2 => ov = some (.int r) ∧ w2 = (pW cI cO S)) (fun _ _ => False) := by
  refine CX_of (cc := cX6_holds) (maxL := 2) (ret := (some .boolean)) hl (by decide) rfl (Nat.le_of_ble_eq_true rfl) ?_
  intro X hD hL hT0 hGX hX hQ rI rZ rV rA
  exact sX6_holds (post := fun ov w2 => ov = some (.int r) ∧ w2 = (pW cI cO S)) (px := fun _ _ => False) hX (hT0.trans hT) hGX (rZ rfl) hQ (o := .inr r) (fun v9 e9 => by cases e9; exact ⟨rfl, rfl⟩) (fun x9 e9 => nomatch e9) h
set_option maxRecDepth 100000 in
set_option maxHeartbeats 4000000 in
theorem kxX6_holds {l : Launch} {D : va_G} {tys : List (ClassId × FieldType)} {cI cZ cO cJ : ClassId} {gs : JP} {n : Nat} {S : PS} {v0 : Nat} {v1 : Int32} {x9 : Nat} (hl : l.stackTraces = false) (hT : tys = jTy cI cZ cO cJ) (h : fX6_holds n S v0 v1 = some (.inl x9)) : CX l (GP gs) D tys yX6_holds wsX6_holds rmX6_holds [.ref v0, .int v1] (pW cI cO S) (fun _ _ => False) (fun E w2 => E = exN x9 ∧ w2 = (pW cI cO S)) := by
  refine CX_of (cc := cX6_holds) (maxL := 2) (ret := (some .boolean)) hl (by decide) rfl (Nat.le_of_ble_eq_true rfl) ?_
  intro X hD hL hT0 hGX hX hQ rI rZ rV rA
  exact sX6_holds (post := fun _ _ => False) (px := fun E w2 => E = exN x9 ∧ w2 = (pW cI cO S)) hX (hT0.trans hT) hGX (rZ rfl) hQ (o := .inl x9) (fun v9 e9 => nomatch e9) (fun x9 e9 => by cases e9; exact ⟨rfl, rfl⟩) h
