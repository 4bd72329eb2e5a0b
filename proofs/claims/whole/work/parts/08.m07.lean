/-! X7_rule -/
abbrev rmX7_rule : Room := { frames := 1, cells := 0, slots := 0, locals := 22 }
theorem hdX7_rule : yX7_rule.cls = RX7 ∧ yX7_rule.cls ≠ "java/lang/invoke/MethodHandle" ∧ yX7_rule.cls ≠ "java/lang/invoke/VarHandle" ∧ (parseMethodDescriptor yX7_rule.desc).map (fun d => d.parameters.length) = some 4 := by decide +kernel
theorem inX7_rule : ∀ w ∈ wsX70, w ∈ wsX7_rule := fun _ h => List.mem_cons_of_mem _ (List.mem_append_right _ h)
theorem lkX7_rule_215 : Cond.fieldLink RX7 215 "PostlintModel" (TX7 15).2.1 (TX7 15).2.2.1 ∈ wsX7_rule := by decide +kernel
theorem lkX7_rule_47 : Cond.fieldLink RX7 47 "PostlintModel" (TX7 16).2.1 (TX7 16).2.2.1 ∈ wsX7_rule := by decide +kernel
theorem lkX7_rule_50 : Cond.fieldLink RX7 50 "PostlintModel" (TX7 17).2.1 (TX7 17).2.2.1 ∈ wsX7_rule := by decide +kernel
theorem lkX7_rule_53 : Cond.fieldLink RX7 53 "PostlintModel" (TX7 18).2.1 (TX7 18).2.2.1 ∈ wsX7_rule := by decide +kernel
theorem lkX7_rule_56 : Cond.fieldLink RX7 56 "PostlintModel" (TX7 19).2.1 (TX7 19).2.2.1 ∈ wsX7_rule := by decide +kernel
theorem lkX7_rule_59 : Cond.fieldLink RX7 59 "PostlintModel" (TX7 20).2.1 (TX7 20).2.2.1 ∈ wsX7_rule := by decide +kernel
def fX7_rule_J94 (w : MW) (v1 v2 v3 v4 t0 : Int32) : Option (Int32 × MW) := b2 (fX7_isOf w t0) (fun r94 w94 => (if r94 = 0 then some ((0 : Int32), w94) else chk (inB (w94.1 15) (mLen 16)) (bnd (mA w94 16 ((w94.1 15)).toNatClampNeg v1) (fun w111 => chk (inB (w111.1 15) (mLen 17)) (bnd (mA w111 17 ((w111.1 15)).toNatClampNeg v2) (fun w121 => chk (inB (w121.1 15) (mLen 18)) (bnd (mA w121 18 ((w121.1 15)).toNatClampNeg v3) (fun w131 => chk (inB (w131.1 15) (mLen 19)) (bnd (mA w131 19 ((w131.1 15)).toNatClampNeg v4) (fun w142 => chk (inB (w142.1 15) (mLen 20)) (chk (b01 (0 : Int32)) (bnd (mA w142 20 ((w142.1 15)).toNatClampNeg (0 : Int32)) (fun w152 => bnd (mS w152 15 ((w152.1 15) + (1 : Int32))) (fun w160 => some (((w160.1 15) - (1 : Int32)), w160)))))))))))))))
def fX7_rule_J68 (w : MW) (v1 v2 v3 v4 t0 : Int32) : Option (Int32 × MW) := (if t0 = 0 then fX7_rule_J94 w v1 v2 v3 v4 (1 : Int32) else (if (w.1 15) = (8 : Int32) then fX7_rule_J94 w v1 v2 v3 v4 (2 : Int32) else fX7_rule_J94 w v1 v2 v3 v4 (0 : Int32)))
def fX7_rule_J67 (w : MW) (v1 v2 v3 v4 : Int32) : Option (Int32 × MW) := fX7_rule_J68 w v1 v2 v3 v4 (0 : Int32)
def fX7_rule_J63 (w : MW) (v1 v2 v3 v4 : Int32) : Option (Int32 × MW) := fX7_rule_J68 w v1 v2 v3 v4 (1 : Int32)
def fX7_rule_J53 (w : MW) (v1 v2 v3 v4 : Int32) : Option (Int32 × MW) := (if v1 = (2 : Int32) then (if v2 = v3 then fX7_rule_J67 w v1 v2 v3 v4 else fX7_rule_J63 w v1 v2 v3 v4) else fX7_rule_J63 w v1 v2 v3 v4)
def fX7_rule (w : MW) (v1 v2 v3 v4 : Int32) : Option (Int32 × MW) := bP (fX7_isIn v1 (0 : Int32) (3 : Int32)) (fun r3 => (if r3 = 0 then fX7_rule_J67 w v1 v2 v3 v4 else bP (fX7_isIn v2 (0 : Int32) (7 : Int32)) (fun r13 => (if r13 = 0 then fX7_rule_J67 w v1 v2 v3 v4 else bP (fX7_isIn v3 (0 : Int32) (7 : Int32)) (fun r23 => (if r23 = 0 then fX7_rule_J67 w v1 v2 v3 v4 else bP (fX7_isIn v4 (-999 : Int32) (999 : Int32)) (fun r37 => (if r37 = 0 then fX7_rule_J67 w v1 v2 v3 v4 else (if v1 = (1 : Int32) then (if v4 < 0 then fX7_rule_J67 w v1 v2 v3 v4 else fX7_rule_J53 w v1 v2 v3 v4) else fX7_rule_J53 w v1 v2 v3 v4)))))))))
set_option maxRecDepth 100000 in
set_option maxHeartbeats 4000000 in
theorem sX7_rule_J94 {X : JX} {a : Nat} {ad : Nat → Nat} {cI cZ cO cJ : ClassId} {post : Option Value → va_W → Prop} (hX : jOK X cX7_rule 6 wsX7_rule RX7 rmX7_rule) (hT : jT X = jTy cI cZ cO cJ) (hGX : jG X jG0) (hret : jRI X cX7_rule rmX7_rule post) {o : (Int32 × MW)}   (hro : ∀ (v9 : Int32) (w9 : MW), o = (v9, w9) → post (some (.int v9)) (mW a ad cI cZ w9)) {w : MW} {v1 v2 v3 v4 t0 : Int32} (h : fX7_rule_J94 w v1 v2 v3 v4 t0 = some o) : JW X 0 0 (mW a ad cI cZ w) 94 [(0, .ref a), (1, .int v1), (2, .int v2), (3, .int v3), (4, .int v4)] [.int t0, .ref a] := by
  unfold fX7_rule_J94 at h
  obtain ⟨r94, w94, hc94, h⟩ := b2_some h
  refine jw_cVi (As := [.int t0]) hX jG0_ok hGX 1 (kX7_isOf hT hc94) gX7_rule_X7_isOf rfl hdX7_isOf ⟨by decide, by decide⟩ 0 7 rfl rfl rfl (Nat.le_of_ble_eq_true rfl) dX7_rule_94 rfl rfl ⟨by decide, by decide⟩ ?_
  refine jw_if_ne (tgt := 102) hX dX7_rule_97 (by decide) (fun hc => ?_) (fun hc => ?_)
  · rw [if_neg hc] at h
    refine jw_aload_n hX dX7_rule_102 rfl 0 rfl ?_
    refine jw_mgetA hX hT inX7_rule 16 (by decide) lkX7_rule_47 rfl dX7_rule_103 ?_
    refine jw_aload_n hX dX7_rule_106 rfl 0 rfl ?_
    refine jw_mgetI hX hT inX7_rule 15 (by decide) lkX7_rule_215 rfl dX7_rule_107 ?_
    refine jw_iload_n hX dX7_rule_110 rfl 1 rfl ?_
    obtain ⟨hb111, h⟩ := chk_some h
    refine jw_miast hX hT 12 16 rfl rfl hb111 dX7_rule_111 (fun w111 e111 => ?_)
    replace h := bnd_some h w111 e111
    clear e111
    refine jw_aload_n hX dX7_rule_112 rfl 0 rfl ?_
    refine jw_mgetA hX hT inX7_rule 17 (by decide) lkX7_rule_50 rfl dX7_rule_113 ?_
    refine jw_aload_n hX dX7_rule_116 rfl 0 rfl ?_
    refine jw_mgetI hX hT inX7_rule 15 (by decide) lkX7_rule_215 rfl dX7_rule_117 ?_
    refine jw_iload_n hX dX7_rule_120 rfl 2 rfl ?_
    obtain ⟨hb121, h⟩ := chk_some h
    refine jw_miast hX hT 13 17 rfl rfl hb121 dX7_rule_121 (fun w121 e121 => ?_)
    replace h := bnd_some h w121 e121
    clear e121
    refine jw_aload_n hX dX7_rule_122 rfl 0 rfl ?_
    refine jw_mgetA hX hT inX7_rule 18 (by decide) lkX7_rule_53 rfl dX7_rule_123 ?_
    refine jw_aload_n hX dX7_rule_126 rfl 0 rfl ?_
    refine jw_mgetI hX hT inX7_rule 15 (by decide) lkX7_rule_215 rfl dX7_rule_127 ?_
    refine jw_iload_n hX dX7_rule_130 rfl 3 rfl ?_
    obtain ⟨hb131, h⟩ := chk_some h
    refine jw_miast hX hT 14 18 rfl rfl hb131 dX7_rule_131 (fun w131 e131 => ?_)
    replace h := bnd_some h w131 e131
    clear e131
    refine jw_aload_n hX dX7_rule_132 rfl 0 rfl ?_
    refine jw_mgetA hX hT inX7_rule 19 (by decide) lkX7_rule_56 rfl dX7_rule_133 ?_
    refine jw_aload_n hX dX7_rule_136 rfl 0 rfl ?_
    refine jw_mgetI hX hT inX7_rule 15 (by decide) lkX7_rule_215 rfl dX7_rule_137 ?_
    refine jw_iload hX dX7_rule_140 4 rfl ?_
    obtain ⟨hb142, h⟩ := chk_some h
    refine jw_miast hX hT 15 19 rfl rfl hb142 dX7_rule_142 (fun w142 e142 => ?_)
    replace h := bnd_some h w142 e142
    clear e142
    refine jw_aload_n hX dX7_rule_143 rfl 0 rfl ?_
    refine jw_mgetA hX hT inX7_rule 20 (by decide) lkX7_rule_59 rfl dX7_rule_144 ?_
    refine jw_aload_n hX dX7_rule_147 rfl 0 rfl ?_
    refine jw_mgetI hX hT inX7_rule 15 (by decide) lkX7_rule_215 rfl dX7_rule_148 ?_
    refine jw_iconst (v := (0 : Int32)) hX dX7_rule_151 (by decide) ?_
    obtain ⟨hb152, h⟩ := chk_some h
    obtain ⟨hz152, h⟩ := chk_some h
    refine jw_mzast hX hT 16 20 rfl rfl hb152 hz152 dX7_rule_152 (fun w152 e152 => ?_)
    replace h := bnd_some h w152 e152
    clear e152
    refine jw_aload_n hX dX7_rule_153 rfl 0 rfl ?_
    refine jw_dup hX dX7_rule_154 rfl ?_
    refine jw_mgetI hX hT inX7_rule 15 (by decide) lkX7_rule_215 rfl dX7_rule_155 ?_
    refine jw_iconst (v := (1 : Int32)) hX dX7_rule_158 (by decide) ?_
    refine jw_iadd hX dX7_rule_159 ?_
    refine jw_mputI hX hT inX7_rule 15 (by decide) lkX7_rule_215 rfl dX7_rule_160 (fun w160 e160 => ?_)
    replace h := bnd_some h w160 e160
    clear e160
    refine jw_aload_n hX dX7_rule_163 rfl 0 rfl ?_
    refine jw_mgetI hX hT inX7_rule 15 (by decide) lkX7_rule_215 rfl dX7_rule_164 ?_
    refine jw_iconst (v := (1 : Int32)) hX dX7_rule_167 (by decide) ?_
    refine jw_isub hX dX7_rule_168 ?_
    exact hret _ _ _ _ _ _ (Nat.zero_le _) (Nat.zero_le _) dX7_rule_169 (hro _ _ (Option.some.inj h).symm)
  · rw [if_pos hc] at h
    refine jw_iconst (v := (0 : Int32)) hX dX7_rule_100 (by decide) ?_
    exact hret _ _ _ _ _ _ (Nat.zero_le _) (Nat.zero_le _) dX7_rule_101 (hro _ _ (Option.some.inj h).symm)
set_option maxRecDepth 100000 in
set_option maxHeartbeats 4000000 in
theorem sX7_rule_J68 {X : JX} {a : Nat} {ad : Nat → Nat} {cI cZ cO cJ : ClassId} {post : Option Value → va_W → Prop} (hX : jOK X cX7_rule 6 wsX7_rule RX7 rmX7_rule) (hT : jT X = jTy cI cZ cO cJ) (hGX : jG X jG0) (hret : jRI X cX7_rule rmX7_rule post) {o : (Int32 × MW)}   (hro : ∀ (v9 : Int32) (w9 : MW), o = (v9, w9) → post (some (.int v9)) (mW a ad cI cZ w9)) {w : MW} {v1 v2 v3 v4 t0 : Int32} (h : fX7_rule_J68 w v1 v2 v3 v4 t0 = some o) : JW X 0 0 (mW a ad cI cZ w) 68 [(0, .ref a), (1, .int v1), (2, .int v2), (3, .int v3), (4, .int v4)] [.int t0] := by
  unfold fX7_rule_J68 at h
  refine jw_istore hX [(5, .int t0), (0, .ref a), (1, .int v1), (2, .int v2), (3, .int v3), (4, .int v4)] dX7_rule_68 (by decide) rfl ?_
  refine jw_aload_n hX dX7_rule_70 rfl 1 rfl ?_
  refine jw_iload hX dX7_rule_71 0 rfl ?_
  refine jw_if_ne (tgt := 80) hX dX7_rule_73 (by decide) (fun hc => ?_) (fun hc => ?_)
  · rw [if_neg hc] at h
    refine jw_aload_n hX dX7_rule_80 rfl 1 rfl ?_
    refine jw_mgetI hX hT inX7_rule 15 (by decide) lkX7_rule_215 rfl dX7_rule_81 ?_
    refine jw_bipush (v := (8 : Int32)) hX dX7_rule_84 (by decide) ?_
    refine jw_icmp_ne (tgt := 93) hX dX7_rule_86 (by decide) (fun hc => ?_) (fun hc => ?_)
    · rw [if_neg hc] at h
      refine jw_iconst (v := (0 : Int32)) hX dX7_rule_93 (by decide) ?_
      refine jw_sub [1, 2, 3, 4, 5] [(0, .ref a), (1, .int v1), (2, .int v2), (3, .int v3), (4, .int v4)] rfl ?_
      exact sX7_rule_J94 hX hT hGX hret hro h
    · rw [if_pos hc] at h
      refine jw_iconst (v := (2 : Int32)) hX dX7_rule_89 (by decide) ?_
      refine jw_goto (tgt := 94) hX dX7_rule_90 (by decide) ?_
      refine jw_sub [1, 2, 3, 4, 5] [(0, .ref a), (1, .int v1), (2, .int v2), (3, .int v3), (4, .int v4)] rfl ?_
      exact sX7_rule_J94 hX hT hGX hret hro h
  · rw [if_pos hc] at h
    refine jw_iconst (v := (1 : Int32)) hX dX7_rule_76 (by decide) ?_
    refine jw_goto (tgt := 94) hX dX7_rule_77 (by decide) ?_
    refine jw_sub [1, 2, 3, 4, 5] [(0, .ref a), (1, .int v1), (2, .int v2), (3, .int v3), (4, .int v4)] rfl ?_
    exact sX7_rule_J94 hX hT hGX hret hro h
set_option maxRecDepth 100000 in
set_option maxHeartbeats 4000000 in
theorem sX7_rule_J67 {X : JX} {a : Nat} {ad : Nat → Nat} {cI cZ cO cJ : ClassId} {post : Option Value → va_W → Prop} (hX : jOK X cX7_rule 6 wsX7_rule RX7 rmX7_rule) (hT : jT X = jTy cI cZ cO cJ) (hGX : jG X jG0) (hret : jRI X cX7_rule rmX7_rule post) {o : (Int32 × MW)}   (hro : ∀ (v9 : Int32) (w9 : MW), o = (v9, w9) → post (some (.int v9)) (mW a ad cI cZ w9)) {w : MW} {v1 v2 v3 v4 : Int32} (h : fX7_rule_J67 w v1 v2 v3 v4 = some o) : JW X 0 0 (mW a ad cI cZ w) 67 [(0, .ref a), (1, .int v1), (2, .int v2), (3, .int v3), (4, .int v4)] [] := by
  unfold fX7_rule_J67 at h
  refine jw_iconst (v := (0 : Int32)) hX dX7_rule_67 (by decide) ?_
  exact sX7_rule_J68 hX hT hGX hret hro h
set_option maxRecDepth 100000 in
set_option maxHeartbeats 4000000 in
theorem sX7_rule_J63 {X : JX} {a : Nat} {ad : Nat → Nat} {cI cZ cO cJ : ClassId} {post : Option Value → va_W → Prop} (hX : jOK X cX7_rule 6 wsX7_rule RX7 rmX7_rule) (hT : jT X = jTy cI cZ cO cJ) (hGX : jG X jG0) (hret : jRI X cX7_rule rmX7_rule post) {o : (Int32 × MW)}   (hro : ∀ (v9 : Int32) (w9 : MW), o = (v9, w9) → post (some (.int v9)) (mW a ad cI cZ w9)) {w : MW} {v1 v2 v3 v4 : Int32} (h : fX7_rule_J63 w v1 v2 v3 v4 = some o) : JW X 0 0 (mW a ad cI cZ w) 63 [(0, .ref a), (1, .int v1), (2, .int v2), (3, .int v3), (4, .int v4)] [] := by
  unfold fX7_rule_J63 at h
  refine jw_iconst (v := (1 : Int32)) hX dX7_rule_63 (by decide) ?_
  refine jw_goto (tgt := 68) hX dX7_rule_64 (by decide) ?_
  exact sX7_rule_J68 hX hT hGX hret hro h
set_option maxRecDepth 100000 in
set_option maxHeartbeats 4000000 in
theorem sX7_rule_J53 {X : JX} {a : Nat} {ad : Nat → Nat} {cI cZ cO cJ : ClassId} {post : Option Value → va_W → Prop} (hX : jOK X cX7_rule 6 wsX7_rule RX7 rmX7_rule) (hT : jT X = jTy cI cZ cO cJ) (hGX : jG X jG0) (hret : jRI X cX7_rule rmX7_rule post) {o : (Int32 × MW)}   (hro : ∀ (v9 : Int32) (w9 : MW), o = (v9, w9) → post (some (.int v9)) (mW a ad cI cZ w9)) {w : MW} {v1 v2 v3 v4 : Int32} (h : fX7_rule_J53 w v1 v2 v3 v4 = some o) : JW X 0 0 (mW a ad cI cZ w) 53 [(0, .ref a), (1, .int v1), (2, .int v2), (3, .int v3), (4, .int v4)] [] := by
  unfold fX7_rule_J53 at h
  refine jw_iload_n hX dX7_rule_53 rfl 1 rfl ?_
  refine jw_iconst (v := (2 : Int32)) hX dX7_rule_54 (by decide) ?_
  refine jw_icmp_ne (tgt := 63) hX dX7_rule_55 (by decide) (fun hc => ?_) (fun hc => ?_)
  · rw [if_neg hc] at h
    exact sX7_rule_J63 hX hT hGX hret hro h
  · rw [if_pos hc] at h
    refine jw_iload_n hX dX7_rule_58 rfl 2 rfl ?_
    refine jw_iload_n hX dX7_rule_59 rfl 3 rfl ?_
    refine jw_icmp_eq (tgt := 67) hX dX7_rule_60 (by decide) (fun hc => ?_) (fun hc => ?_)
    · rw [if_pos hc] at h
      exact sX7_rule_J67 hX hT hGX hret hro h
    · rw [if_neg hc] at h
      exact sX7_rule_J63 hX hT hGX hret hro h
set_option maxRecDepth 100000 in
set_option maxHeartbeats 4000000 in
theorem sX7_rule {X : JX} {a : Nat} {ad : Nat → Nat} {cI cZ cO cJ : ClassId} {post : Option Value → va_W → Prop} (hX : jOK X cX7_rule 6 wsX7_rule RX7 rmX7_rule) (hT : jT X = jTy cI cZ cO cJ) (hGX : jG X jG0) (hret : jRI X cX7_rule rmX7_rule post) {o : (Int32 × MW)} (hro : ∀ (v9 : Int32) (w9 : MW), o = (v9, w9) → post (some (.int v9)) (mW a ad cI cZ w9)) {w : MW} {v1 v2 v3 v4 : Int32} (h : fX7_rule w v1 v2 v3 v4 = some o) : JW X 0 0 (mW a ad cI cZ w) 0 [(0, .ref a), (1, .int v1), (2, .int v2), (3, .int v3), (4, .int v4)] [] := by
  unfold fX7_rule at h
  refine jw_iload_n hX dX7_rule_0 rfl 1 rfl ?_
  refine jw_iconst (v := (0 : Int32)) hX dX7_rule_1 (by decide) ?_
  refine jw_iconst (v := (3 : Int32)) hX dX7_rule_2 (by decide) ?_
  obtain ⟨r3, hc3, h⟩ := bP_some h
  refine jw_cSi (As := [.int v1, .int (0 : Int32), .int (3 : Int32)]) hX jG0_ok hGX 3 (kX7_isIn hT hc3) gX7_rule_X7_isIn rfl hdX7_isIn ⟨by decide, by decide⟩ rfl (Nat.le_of_ble_eq_true rfl) dX7_rule_3 rfl rfl ⟨by decide, by decide⟩ ?_
  refine jw_if_eq (tgt := 67) hX dX7_rule_6 (by decide) (fun hc => ?_) (fun hc => ?_)
  · rw [if_pos hc] at h
    exact sX7_rule_J67 hX hT hGX hret hro h
  · rw [if_neg hc] at h
    refine jw_iload_n hX dX7_rule_9 rfl 2 rfl ?_
    refine jw_iconst (v := (0 : Int32)) hX dX7_rule_10 (by decide) ?_
    refine jw_bipush (v := (7 : Int32)) hX dX7_rule_11 (by decide) ?_
    obtain ⟨r13, hc13, h⟩ := bP_some h
    refine jw_cSi (As := [.int v2, .int (0 : Int32), .int (7 : Int32)]) hX jG0_ok hGX 3 (kX7_isIn hT hc13) gX7_rule_X7_isIn rfl hdX7_isIn ⟨by decide, by decide⟩ rfl (Nat.le_of_ble_eq_true rfl) dX7_rule_13 rfl rfl ⟨by decide, by decide⟩ ?_
    refine jw_if_eq (tgt := 67) hX dX7_rule_16 (by decide) (fun hc => ?_) (fun hc => ?_)
    · rw [if_pos hc] at h
      exact sX7_rule_J67 hX hT hGX hret hro h
    · rw [if_neg hc] at h
      refine jw_iload_n hX dX7_rule_19 rfl 3 rfl ?_
      refine jw_iconst (v := (0 : Int32)) hX dX7_rule_20 (by decide) ?_
      refine jw_bipush (v := (7 : Int32)) hX dX7_rule_21 (by decide) ?_
      obtain ⟨r23, hc23, h⟩ := bP_some h
      refine jw_cSi (As := [.int v3, .int (0 : Int32), .int (7 : Int32)]) hX jG0_ok hGX 3 (kX7_isIn hT hc23) gX7_rule_X7_isIn rfl hdX7_isIn ⟨by decide, by decide⟩ rfl (Nat.le_of_ble_eq_true rfl) dX7_rule_23 rfl rfl ⟨by decide, by decide⟩ ?_
      refine jw_if_eq (tgt := 67) hX dX7_rule_26 (by decide) (fun hc => ?_) (fun hc => ?_)
      · rw [if_pos hc] at h
        exact sX7_rule_J67 hX hT hGX hret hro h
      · rw [if_neg hc] at h
        refine jw_iload hX dX7_rule_29 4 rfl ?_
        refine jw_sipush (v := (-999 : Int32)) hX dX7_rule_31 (by decide) ?_
        refine jw_sipush (v := (999 : Int32)) hX dX7_rule_34 (by decide) ?_
        obtain ⟨r37, hc37, h⟩ := bP_some h
        refine jw_cSi (As := [.int v4, .int (-999 : Int32), .int (999 : Int32)]) hX jG0_ok hGX 3 (kX7_isIn hT hc37) gX7_rule_X7_isIn rfl hdX7_isIn ⟨by decide, by decide⟩ rfl (Nat.le_of_ble_eq_true rfl) dX7_rule_37 rfl rfl ⟨by decide, by decide⟩ ?_
        refine jw_if_eq (tgt := 67) hX dX7_rule_40 (by decide) (fun hc => ?_) (fun hc => ?_)
        · rw [if_pos hc] at h
          exact sX7_rule_J67 hX hT hGX hret hro h
        · rw [if_neg hc] at h
          refine jw_iload_n hX dX7_rule_43 rfl 1 rfl ?_
          refine jw_iconst (v := (1 : Int32)) hX dX7_rule_44 (by decide) ?_
          refine jw_icmp_ne (tgt := 53) hX dX7_rule_45 (by decide) (fun hc => ?_) (fun hc => ?_)
          · rw [if_neg hc] at h
            exact sX7_rule_J53 hX hT hGX hret hro h
          · rw [if_pos hc] at h
            refine jw_iload hX dX7_rule_48 4 rfl ?_
            refine jw_if_lt (tgt := 67) hX dX7_rule_50 (by decide) (fun hc => ?_) (fun hc => ?_)
            · rw [if_pos hc] at h
              exact sX7_rule_J67 hX hT hGX hret hro h
            · rw [if_neg hc] at h
              exact sX7_rule_J53 hX hT hGX hret hro h
set_option maxRecDepth 100000 in
set_option maxHeartbeats 4000000 in
theorem kX7_rule {l : Launch} {D : va_G} {tys : List (ClassId × FieldType)} {a : Nat} {ad : Nat → Nat} {cI cZ cO cJ : ClassId} {w : MW} {v1 v2 v3 v4 : Int32} {r : Int32} {w1 : MW} (hT : tys = jTy cI cZ cO cJ) (h : fX7_rule w v1 v2 v3 v4 = some (r, w1)) : CC l jG0 D tys yX7_rule wsX7_rule rmX7_rule [.ref a, .int v1, .int v2, .int v3, .int v4] (mW a ad cI cZ w) (fun ov w2 => ov = some (.int r) ∧ w2 = (mW a ad cI cZ w1)) := by
  refine CC_of (cc := cX7_rule) (maxL := 6) (ret := (some .int)) (by decide) rfl (Nat.le_of_ble_eq_true rfl) ?_
  intro X hD hL hT0 hGX hX rI rZ rV rA
  exact sX7_rule (post := fun ov w2 => ov = some (.int r) ∧ w2 = (mW a ad cI cZ w1)) hX (hT0.trans hT) hGX (fun cells slots w9 pc lv v => rI cells slots w9 pc lv v rfl) (o := (r, w1)) (fun v9 w9 e9 => by cases e9; exact ⟨rfl, rfl⟩) h
/-! X7_isRule -/
abbrev rmX7_isRule : Room := { frames := 1, cells := 0, slots := 0, locals := 22 }
theorem hdX7_isRule : yX7_isRule.cls = RX7 ∧ yX7_isRule.cls ≠ "java/lang/invoke/MethodHandle" ∧ yX7_isRule.cls ≠ "java/lang/invoke/VarHandle" ∧ (parseMethodDescriptor yX7_isRule.desc).map (fun d => d.parameters.length) = some 1 := by decide +kernel
theorem inX7_isRule : ∀ w ∈ wsX70, w ∈ wsX7_isRule := fun _ h => List.mem_cons_of_mem _ (List.mem_append_right _ h)
theorem lkX7_isRule_215 : Cond.fieldLink RX7 215 "PostlintModel" (TX7 15).2.1 (TX7 15).2.2.1 ∈ wsX7_isRule := by decide +kernel
def fX7_isRule (w : MW) (v1 : Int32) : Option Int32 := bP (fX7_isIn v1 (0 : Int32) ((w.1 15) - (1 : Int32))) (fun r8 => chk (b01 r8) (some r8))
set_option maxRecDepth 100000 in
set_option maxHeartbeats 4000000 in
theorem sX7_isRule {X : JX} {a : Nat} {ad : Nat → Nat} {cI cZ cO cJ : ClassId} {w : MW} {post : Option Value → va_W → Prop} (hX : jOK X cX7_isRule 2 wsX7_isRule RX7 rmX7_isRule) (hT : jT X = jTy cI cZ cO cJ) (hGX : jG X jG0) (hret : jRZ X cX7_isRule rmX7_isRule post) {o : Int32} (hro : ∀ v9 : Int32, o = v9 → post (some (.int v9)) (mW a ad cI cZ w)) {v1 : Int32} (h : fX7_isRule w v1 = some o) : JW X 0 0 (mW a ad cI cZ w) 0 [(0, .ref a), (1, .int v1)] [] := by
  unfold fX7_isRule at h
  refine jw_iload_n hX dX7_isRule_0 rfl 1 rfl ?_
  refine jw_iconst (v := (0 : Int32)) hX dX7_isRule_1 (by decide) ?_
  refine jw_aload_n hX dX7_isRule_2 rfl 0 rfl ?_
  refine jw_mgetI hX hT inX7_isRule 15 (by decide) lkX7_isRule_215 rfl dX7_isRule_3 ?_
  refine jw_iconst (v := (1 : Int32)) hX dX7_isRule_6 (by decide) ?_
  refine jw_isub hX dX7_isRule_7 ?_
  obtain ⟨r8, hc8, h⟩ := bP_some h
  refine jw_cSi (As := [.int v1, .int (0 : Int32), .int ((w.1 15) - (1 : Int32))]) hX jG0_ok hGX 3 (kX7_isIn hT hc8) gX7_isRule_X7_isIn rfl hdX7_isIn ⟨by decide, by decide⟩ rfl (Nat.le_of_ble_eq_true rfl) dX7_isRule_8 rfl rfl ⟨by decide, by decide⟩ ?_
  obtain ⟨hz11, h⟩ := chk_some h
  exact hret _ _ _ _ _ _ (b01_or hz11) (Nat.zero_le _) (Nat.zero_le _) dX7_isRule_11 (hro _ (Option.some.inj h).symm)
set_option maxRecDepth 100000 in
set_option maxHeartbeats 4000000 in
theorem kX7_isRule {l : Launch} {D : va_G} {tys : List (ClassId × FieldType)} {a : Nat} {ad : Nat → Nat} {cI cZ cO cJ : ClassId} {w : MW} {v1 : Int32} {r : Int32} (hT : tys = jTy cI cZ cO cJ) (h : fX7_isRule w v1 = some r) : CC l jG0 D tys yX7_isRule wsX7_isRule rmX7_isRule [.ref a, .int v1] (mW a ad cI cZ w) (fun ov w2 => ov = some (.int r) ∧ w2 = (mW a ad cI cZ w)) := by
  refine CC_of (cc := cX7_isRule) (maxL := 2) (ret := (some .boolean)) (by decide) rfl (Nat.le_of_ble_eq_true rfl) ?_
  intro X hD hL hT0 hGX hX rI rZ rV rA
  exact sX7_isRule (post := fun ov w2 => ov = some (.int r) ∧ w2 = (mW a ad cI cZ w)) hX (hT0.trans hT) hGX (fun cells slots w9 pc lv v => rZ cells slots w9 pc lv v rfl) (o := r) (fun v9 e9 => by cases e9; exact ⟨rfl, rfl⟩) h
/-! X7_amountOf -/
abbrev rmX7_amountOf : Room := { frames := 0, cells := 0, slots := 0, locals := 0 }
theorem hdX7_amountOf : yX7_amountOf.cls = RX7 ∧ yX7_amountOf.cls ≠ "java/lang/invoke/MethodHandle" ∧ yX7_amountOf.cls ≠ "java/lang/invoke/VarHandle" ∧ (parseMethodDescriptor yX7_amountOf.desc).map (fun d => d.parameters.length) = some 1 := by decide +kernel
theorem inX7_amountOf : ∀ w ∈ wsX70, w ∈ wsX7_amountOf := fun _ h => List.mem_cons_of_mem _ (List.mem_append_right _ h)
theorem lkX7_amountOf_35 : Cond.fieldLink RX7 35 "PostlintModel" (TX7 11).2.1 (TX7 11).2.2.1 ∈ wsX7_amountOf := by decide +kernel
theorem lkX7_amountOf_38 : Cond.fieldLink RX7 38 "PostlintModel" (TX7 12).2.1 (TX7 12).2.2.1 ∈ wsX7_amountOf := by decide +kernel
theorem lkX7_amountOf_41 : Cond.fieldLink RX7 41 "PostlintModel" (TX7 13).2.1 (TX7 13).2.2.1 ∈ wsX7_amountOf := by decide +kernel
def fX7_amountOf (w : MW) (v1 : Int32) : Option Int32 := chk (inB v1 (mLen 11)) ((if (w.2 11 (v1).toNatClampNeg) = 0 then chk (inB v1 (mLen 12)) (chk (inB v1 (mLen 13)) (some ((w.2 12 (v1).toNatClampNeg) * (w.2 13 (v1).toNatClampNeg)))) else chk (inB v1 (mLen 12)) (chk (inB v1 (mLen 13)) (some ((-(w.2 12 (v1).toNatClampNeg)) * (w.2 13 (v1).toNatClampNeg))))))
set_option maxRecDepth 100000 in
set_option maxHeartbeats 4000000 in
theorem sX7_amountOf {X : JX} {a : Nat} {ad : Nat → Nat} {cI cZ cO cJ : ClassId} {w : MW} {post : Option Value → va_W → Prop} (hX : jOK X cX7_amountOf 2 wsX7_amountOf RX7 rmX7_amountOf) (hT : jT X = jTy cI cZ cO cJ) (hGX : jG X jG0) (hret : jRI X cX7_amountOf rmX7_amountOf post) {o : Int32} (hro : ∀ v9 : Int32, o = v9 → post (some (.int v9)) (mW a ad cI cZ w)) {v1 : Int32} (h : fX7_amountOf w v1 = some o) : JW X 0 0 (mW a ad cI cZ w) 0 [(0, .ref a), (1, .int v1)] [] := by
  unfold fX7_amountOf at h
  refine jw_aload_n hX dX7_amountOf_0 rfl 0 rfl ?_
  refine jw_mgetA hX hT inX7_amountOf 11 (by decide) lkX7_amountOf_35 rfl dX7_amountOf_1 ?_
  refine jw_iload_n hX dX7_amountOf_4 rfl 1 rfl ?_
  obtain ⟨hb5, h⟩ := chk_some h
  refine jw_mzald hX hT 8 11 rfl rfl hb5 dX7_amountOf_5 ?_
  refine jw_if_eq (tgt := 19) hX dX7_amountOf_6 (by decide) (fun hc => ?_) (fun hc => ?_)
  · rw [if_pos hc] at h
    refine jw_aload_n hX dX7_amountOf_19 rfl 0 rfl ?_
    refine jw_mgetA hX hT inX7_amountOf 12 (by decide) lkX7_amountOf_38 rfl dX7_amountOf_20 ?_
    refine jw_iload_n hX dX7_amountOf_23 rfl 1 rfl ?_
    obtain ⟨hb24, h⟩ := chk_some h
    refine jw_miald hX hT 9 12 rfl rfl hb24 dX7_amountOf_24 ?_
    refine jw_aload_n hX dX7_amountOf_25 rfl 0 rfl ?_
    refine jw_mgetA hX hT inX7_amountOf 13 (by decide) lkX7_amountOf_41 rfl dX7_amountOf_26 ?_
    refine jw_iload_n hX dX7_amountOf_29 rfl 1 rfl ?_
    obtain ⟨hb30, h⟩ := chk_some h
    refine jw_miald hX hT 10 13 rfl rfl hb30 dX7_amountOf_30 ?_
    refine jw_imul hX dX7_amountOf_31 ?_
    exact hret _ _ _ _ _ _ (Nat.zero_le _) (Nat.zero_le _) dX7_amountOf_32 (hro _ (Option.some.inj h).symm)
  · rw [if_neg hc] at h
    refine jw_aload_n hX dX7_amountOf_9 rfl 0 rfl ?_
    refine jw_mgetA hX hT inX7_amountOf 12 (by decide) lkX7_amountOf_38 rfl dX7_amountOf_10 ?_
    refine jw_iload_n hX dX7_amountOf_13 rfl 1 rfl ?_
    obtain ⟨hb14, h⟩ := chk_some h
    refine jw_miald hX hT 9 12 rfl rfl hb14 dX7_amountOf_14 ?_
    refine jw_ineg hX dX7_amountOf_15 ?_
    refine jw_goto (tgt := 25) hX dX7_amountOf_16 (by decide) ?_
    refine jw_aload_n hX dX7_amountOf_25 rfl 0 rfl ?_
    refine jw_mgetA hX hT inX7_amountOf 13 (by decide) lkX7_amountOf_41 rfl dX7_amountOf_26 ?_
    refine jw_iload_n hX dX7_amountOf_29 rfl 1 rfl ?_
    obtain ⟨hb30, h⟩ := chk_some h
    refine jw_miald hX hT 10 13 rfl rfl hb30 dX7_amountOf_30 ?_
    refine jw_imul hX dX7_amountOf_31 ?_
    exact hret _ _ _ _ _ _ (Nat.zero_le _) (Nat.zero_le _) dX7_amountOf_32 (hro _ (Option.some.inj h).symm)
set_option maxRecDepth 100000 in
set_option maxHeartbeats 4000000 in
theorem kX7_amountOf {l : Launch} {D : va_G} {tys : List (ClassId × FieldType)} {a : Nat} {ad : Nat → Nat} {cI cZ cO cJ : ClassId} {w : MW} {v1 : Int32} {r : Int32} (hT : tys = jTy cI cZ cO cJ) (h : fX7_amountOf w v1 = some r) : CC l jG0 D tys yX7_amountOf wsX7_amountOf rmX7_amountOf [.ref a, .int v1] (mW a ad cI cZ w) (fun ov w2 => ov = some (.int r) ∧ w2 = (mW a ad cI cZ w)) := by
  refine CC_of (cc := cX7_amountOf) (maxL := 2) (ret := (some .int)) (by decide) rfl (Nat.le_of_ble_eq_true rfl) ?_
  intro X hD hL hT0 hGX hX rI rZ rV rA
  exact sX7_amountOf (post := fun ov w2 => ov = some (.int r) ∧ w2 = (mW a ad cI cZ w)) hX (hT0.trans hT) hGX (fun cells slots w9 pc lv v => rI cells slots w9 pc lv v rfl) (o := r) (fun v9 e9 => by cases e9; exact ⟨rfl, rfl⟩) h
/-! X7_got -/
abbrev rmX7_got : Room := { frames := 1, cells := 0, slots := 0, locals := 21 }
theorem hdX7_got : yX7_got.cls = RX7 ∧ yX7_got.cls ≠ "java/lang/invoke/MethodHandle" ∧ yX7_got.cls ≠ "java/lang/invoke/VarHandle" ∧ (parseMethodDescriptor yX7_got.desc).map (fun d => d.parameters.length) = some 2 := by decide +kernel
theorem inX7_got : ∀ w ∈ wsX70, w ∈ wsX7_got := fun _ h => List.mem_cons_of_mem _ (List.mem_append_right _ h)
theorem lkX7_got_29 : Cond.fieldLink RX7 29 "PostlintModel" (TX7 9).2.1 (TX7 9).2.2.1 ∈ wsX7_got := by decide +kernel
theorem lkX7_got_32 : Cond.fieldLink RX7 32 "PostlintModel" (TX7 10).2.1 (TX7 10).2.2.1 ∈ wsX7_got := by decide +kernel
def fX7_got_L8 (n : Nat) : Nat → MW → Int32 → Int32 → Int32 → Int32 → Option (Int32)
  | 0, _, _, _, _, _ => none
  | k + 1, w, v1, v2, v3, v4 => chk (inB v1 (mLen 9)) ((if (((16 : Int32) * v1) + (w.2 9 (v1).toNatClampNeg)) ≤ v4 then some (v3) else chk (inB v4 (mLen 10)) ((if (w.2 10 (v4).toNatClampNeg) = v2 then bP (fX7_amountOf w v4) (fun r39 => bnd ((v3 + r39)) (fun y47 => fX7_got_L8 n k w v1 v2 y47 ((v4 + (1 : Int32))))) else bnd ((v3 + (0 : Int32))) (fun y47 => fX7_got_L8 n k w v1 v2 y47 ((v4 + (1 : Int32))))))))
def fX7_got (n : Nat) (w : MW) (v1 v2 : Int32) : Option Int32 := bnd (((16 : Int32) * v1)) (fun y6 => bL1 (fX7_got_L8 n n w v1 v2 (0 : Int32) y6) (fun x3_8 => some x3_8))
set_option maxRecDepth 100000 in
set_option maxHeartbeats 4000000 in
theorem sX7_got_L8 {X : JX} {a : Nat} {ad : Nat → Nat} {cI cZ cO cJ : ClassId} {n : Nat} {w : MW} {post : Option Value → va_W → Prop} (hX : jOK X cX7_got 5 wsX7_got RX7 rmX7_got) (hT : jT X = jTy cI cZ cO cJ) (hGX : jG X jG0) (hret : jRI X cX7_got rmX7_got post) {o : (Int32)} (hex : ∀ (x3 : Int32), o = x3 → JW X 0 0 (mW a ad cI cZ w) 54 [(3, .int x3)] [])  : ∀ (k : Nat) (v1 v2 v3 v4 : Int32), fX7_got_L8 n k w v1 v2 v3 v4 = some o → JW X 0 0 (mW a ad cI cZ w) 8 [(0, .ref a), (1, .int v1), (2, .int v2), (3, .int v3), (4, .int v4)] [] := by
  intro k
  induction k with
  | zero => intro v1 v2 v3 v4 h; cases h
  | succ k hrec0 =>
    intro v1 v2 v3 v4 h
    have hrec := fun (_ : MW) => hrec0
    unfold fX7_got_L8 at h
    refine jw_iload hX dX7_got_8 4 rfl ?_
    refine jw_bipush (v := (16 : Int32)) hX dX7_got_10 (by decide) ?_
    refine jw_iload_n hX dX7_got_12 rfl 1 rfl ?_
    refine jw_imul hX dX7_got_13 ?_
    refine jw_aload_n hX dX7_got_14 rfl 0 rfl ?_
    refine jw_mgetA hX hT inX7_got 9 (by decide) lkX7_got_29 rfl dX7_got_15 ?_
    refine jw_iload_n hX dX7_got_18 rfl 1 rfl ?_
    obtain ⟨hb19, h⟩ := chk_some h
    refine jw_miald hX hT 6 9 rfl rfl hb19 dX7_got_19 ?_
    refine jw_iadd hX dX7_got_20 ?_
    refine jw_icmp_ge (tgt := 54) hX dX7_got_21 (by decide) (fun hc => ?_) (fun hc => ?_)
    · rw [if_pos hc] at h
      refine jw_sub [3] [(3, .int v3)] rfl ?_
      exact hex _ (Option.some.inj h).symm
    · rw [if_neg hc] at h
      refine jw_iload_n hX dX7_got_24 rfl 3 rfl ?_
      refine jw_aload_n hX dX7_got_25 rfl 0 rfl ?_
      refine jw_mgetA hX hT inX7_got 10 (by decide) lkX7_got_32 rfl dX7_got_26 ?_
      refine jw_iload hX dX7_got_29 4 rfl ?_
      obtain ⟨hb31, h⟩ := chk_some h
      refine jw_miald hX hT 7 10 rfl rfl hb31 dX7_got_31 ?_
      refine jw_iload_n hX dX7_got_32 rfl 2 rfl ?_
      refine jw_icmp_ne (tgt := 45) hX dX7_got_33 (by decide) (fun hc => ?_) (fun hc => ?_)
      · rw [if_neg hc] at h
        refine jw_iconst (v := (0 : Int32)) hX dX7_got_45 (by decide) ?_
        refine jw_iadd hX dX7_got_46 ?_
        refine jw_topi (fun y47 e47 => ?_)
        replace h := bnd_some h y47 e47
        clear e47
        refine jw_istore_n hX [(3, .int y47), (0, .ref a), (1, .int v1), (2, .int v2), (4, .int v4)] dX7_got_47 rfl (by decide) rfl ?_
        refine jw_iinc (v := (v4 + (1 : Int32))) hX [(4, .int (v4 + (1 : Int32))), (3, .int y47), (0, .ref a), (1, .int v1), (2, .int v2)] dX7_got_48 4 rfl (by first | rfl | (congr 1; decide)) (by decide) rfl ?_
        refine jw_goto (tgt := 8) hX dX7_got_51 (by decide) ?_
        refine jw_sub [2, 3, 4, 1, 0] [(0, .ref a), (1, .int v1), (2, .int v2), (3, .int y47), (4, .int (v4 + (1 : Int32)))] rfl ?_
        exact hrec w _ _ _ _ h
      · rw [if_pos hc] at h
        refine jw_aload_n hX dX7_got_36 rfl 0 rfl ?_
        refine jw_iload hX dX7_got_37 4 rfl ?_
        obtain ⟨r39, hc39, h⟩ := bP_some h
        refine jw_cVi (As := [.int v4]) hX jG0_ok hGX 1 (kX7_amountOf hT hc39) gX7_got_X7_amountOf rfl hdX7_amountOf ⟨by decide, by decide⟩ 0 7 rfl rfl rfl (Nat.le_of_ble_eq_true rfl) dX7_got_39 rfl rfl ⟨by decide, by decide⟩ ?_
        refine jw_goto (tgt := 46) hX dX7_got_42 (by decide) ?_
        refine jw_iadd hX dX7_got_46 ?_
        refine jw_topi (fun y47 e47 => ?_)
        replace h := bnd_some h y47 e47
        clear e47
        refine jw_istore_n hX [(3, .int y47), (0, .ref a), (1, .int v1), (2, .int v2), (4, .int v4)] dX7_got_47 rfl (by decide) rfl ?_
        refine jw_iinc (v := (v4 + (1 : Int32))) hX [(4, .int (v4 + (1 : Int32))), (3, .int y47), (0, .ref a), (1, .int v1), (2, .int v2)] dX7_got_48 4 rfl (by first | rfl | (congr 1; decide)) (by decide) rfl ?_
        refine jw_goto (tgt := 8) hX dX7_got_51 (by decide) ?_
        refine jw_sub [2, 3, 4, 1, 0] [(0, .ref a), (1, .int v1), (2, .int v2), (3, .int y47), (4, .int (v4 + (1 : Int32)))] rfl ?_
        exact hrec w _ _ _ _ h
set_option maxRecDepth 100000 in
set_option maxHeartbeats 4000000 in
theorem sX7_got {X : JX} {a : Nat} {ad : Nat → Nat} {cI cZ cO cJ : ClassId} {n : Nat} {w : MW} {post : Option Value → va_W → Prop} (hX : jOK X cX7_got 5 wsX7_got RX7 rmX7_got) (hT : jT X = jTy cI cZ cO cJ) (hGX : jG X jG0) (hret : jRI X cX7_got rmX7_got post) {o : Int32} (hro : ∀ v9 : Int32, o = v9 → post (some (.int v9)) (mW a ad cI cZ w)) {v1 v2 : Int32} (h : fX7_got n w v1 v2 = some o) : JW X 0 0 (mW a ad cI cZ w) 0 [(0, .ref a), (1, .int v1), (2, .int v2)] [] := by
  unfold fX7_got at h
  refine jw_iconst (v := (0 : Int32)) hX dX7_got_0 (by decide) ?_
  refine jw_istore_n hX [(3, .int (0 : Int32)), (0, .ref a), (1, .int v1), (2, .int v2)] dX7_got_1 rfl (by decide) rfl ?_
  refine jw_bipush (v := (16 : Int32)) hX dX7_got_2 (by decide) ?_
  refine jw_iload_n hX dX7_got_4 rfl 2 rfl ?_
  refine jw_imul hX dX7_got_5 ?_
  refine jw_topi (fun y6 e6 => ?_)
  replace h := bnd_some h y6 e6
  clear e6
  refine jw_istore hX [(4, .int y6), (3, .int (0 : Int32)), (0, .ref a), (1, .int v1), (2, .int v2)] dX7_got_6 (by decide) rfl ?_
  refine jw_sub [2, 3, 4, 1, 0] [(0, .ref a), (1, .int v1), (2, .int v2), (3, .int (0 : Int32)), (4, .int y6)] rfl ?_
  obtain ⟨x3_8, hl8, h⟩ := bL1_some h
  refine sX7_got_L8 hX hT hGX hret (o := x3_8) (fun q0 e9 => ?_) n _ _ _ _ hl8
  cases e9
  refine jw_iload_n hX dX7_got_54 rfl 0 rfl ?_
  exact hret _ _ _ _ _ _ (Nat.zero_le _) (Nat.zero_le _) dX7_got_55 (hro _ (Option.some.inj h).symm)
set_option maxRecDepth 100000 in
set_option maxHeartbeats 4000000 in
theorem kX7_got {l : Launch} {D : va_G} {tys : List (ClassId × FieldType)} {a : Nat} {ad : Nat → Nat} {cI cZ cO cJ : ClassId} {n : Nat} {w : MW} {v1 v2 : Int32} {r : Int32} (hT : tys = jTy cI cZ cO cJ) (h : fX7_got n w v1 v2 = some r) : CC l jG0 D tys yX7_got wsX7_got rmX7_got [.ref a, .int v1, .int v2] (mW a ad cI cZ w) (fun ov w2 => ov = some (.int r) ∧ w2 = (mW a ad cI cZ w)) := by
  refine CC_of (cc := cX7_got) (maxL := 5) (ret := (some .int)) (by decide) rfl (Nat.le_of_ble_eq_true rfl) ?_
  intro X hD hL hT0 hGX hX rI rZ rV rA
  exact sX7_got (post := fun ov w2 => ov = some (.int r) ∧ w2 = (mW a ad cI cZ w)) hX (hT0.trans hT) hGX (fun cells slots w9 pc lv v => rI cells slots w9 pc lv v rfl) (o := r) (fun v9 e9 => by cases e9; exact ⟨rfl, rfl⟩) h
/-! X7_has -/
abbrev rmX7_has : Room := { frames := 0, cells := 0, slots := 0, locals := 0 }
theorem hdX7_has : yX7_has.cls = RX7 ∧ yX7_has.cls ≠ "java/lang/invoke/MethodHandle" ∧ yX7_has.cls ≠ "java/lang/invoke/VarHandle" ∧ (parseMethodDescriptor yX7_has.desc).map (fun d => d.parameters.length) = some 2 := by decide +kernel
theorem inX7_has : ∀ w ∈ wsX70, w ∈ wsX7_has := fun _ h => List.mem_cons_of_mem _ (List.mem_append_right _ h)
theorem lkX7_has_29 : Cond.fieldLink RX7 29 "PostlintModel" (TX7 9).2.1 (TX7 9).2.2.1 ∈ wsX7_has := by decide +kernel
theorem lkX7_has_32 : Cond.fieldLink RX7 32 "PostlintModel" (TX7 10).2.1 (TX7 10).2.2.1 ∈ wsX7_has := by decide +kernel
def fX7_has_L8 (n : Nat) : Nat → MW → Int32 → Int32 → Int32 → Int32 → Option (Int32)
  | 0, _, _, _, _, _ => none
  | k + 1, w, v1, v2, v3, v4 => chk (inB v1 (mLen 9)) ((if (((16 : Int32) * v1) + (w.2 9 (v1).toNatClampNeg)) ≤ v4 then some (v3) else (if v3 = 0 then chk (inB v4 (mLen 10)) ((if (w.2 10 (v4).toNatClampNeg) = v2 then fX7_has_L8 n k w v1 v2 ((1 : Int32)) ((v4 + (1 : Int32))) else fX7_has_L8 n k w v1 v2 ((0 : Int32)) ((v4 + (1 : Int32))))) else fX7_has_L8 n k w v1 v2 ((1 : Int32)) ((v4 + (1 : Int32))))))
def fX7_has (n : Nat) (w : MW) (v1 v2 : Int32) : Option Int32 := bnd (((16 : Int32) * v1)) (fun y6 => bL1 (fX7_has_L8 n n w v1 v2 (0 : Int32) y6) (fun x3_8 => chk (b01 x3_8) (some x3_8)))
set_option maxRecDepth 100000 in
set_option maxHeartbeats 4000000 in
theorem sX7_has_L8 {X : JX} {a : Nat} {ad : Nat → Nat} {cI cZ cO cJ : ClassId} {n : Nat} {w : MW} {post : Option Value → va_W → Prop} (hX : jOK X cX7_has 5 wsX7_has RX7 rmX7_has) (hT : jT X = jTy cI cZ cO cJ) (hGX : jG X jG0) (hret : jRZ X cX7_has rmX7_has post) {o : (Int32)} (hex : ∀ (x3 : Int32), o = x3 → JW X 0 0 (mW a ad cI cZ w) 51 [(3, .int x3)] [])  : ∀ (k : Nat) (v1 v2 v3 v4 : Int32), fX7_has_L8 n k w v1 v2 v3 v4 = some o → JW X 0 0 (mW a ad cI cZ w) 8 [(0, .ref a), (1, .int v1), (2, .int v2), (3, .int v3), (4, .int v4)] [] := by
  intro k
  induction k with
  | zero => intro v1 v2 v3 v4 h; cases h
  | succ k hrec0 =>
    intro v1 v2 v3 v4 h
    have hrec := fun (_ : MW) => hrec0
    unfold fX7_has_L8 at h
    refine jw_iload hX dX7_has_8 4 rfl ?_
    refine jw_bipush (v := (16 : Int32)) hX dX7_has_10 (by decide) ?_
    refine jw_iload_n hX dX7_has_12 rfl 1 rfl ?_
    refine jw_imul hX dX7_has_13 ?_
    refine jw_aload_n hX dX7_has_14 rfl 0 rfl ?_
    refine jw_mgetA hX hT inX7_has 9 (by decide) lkX7_has_29 rfl dX7_has_15 ?_
    refine jw_iload_n hX dX7_has_18 rfl 1 rfl ?_
    obtain ⟨hb19, h⟩ := chk_some h
    refine jw_miald hX hT 6 9 rfl rfl hb19 dX7_has_19 ?_
    refine jw_iadd hX dX7_has_20 ?_
    refine jw_icmp_ge (tgt := 51) hX dX7_has_21 (by decide) (fun hc => ?_) (fun hc => ?_)
    · rw [if_pos hc] at h
      refine jw_sub [3] [(3, .int v3)] rfl ?_
      exact hex _ (Option.some.inj h).symm
    · rw [if_neg hc] at h
      refine jw_iload_n hX dX7_has_24 rfl 3 rfl ?_
      refine jw_if_ne (tgt := 39) hX dX7_has_25 (by decide) (fun hc => ?_) (fun hc => ?_)
      · rw [if_neg hc] at h
        refine jw_iconst (v := (1 : Int32)) hX dX7_has_39 (by decide) ?_
        refine jw_goto (tgt := 44) hX dX7_has_40 (by decide) ?_
        refine jw_istore_n hX [(3, .int (1 : Int32)), (0, .ref a), (1, .int v1), (2, .int v2), (4, .int v4)] dX7_has_44 rfl (by decide) rfl ?_
        refine jw_iinc (v := (v4 + (1 : Int32))) hX [(4, .int (v4 + (1 : Int32))), (3, .int (1 : Int32)), (0, .ref a), (1, .int v1), (2, .int v2)] dX7_has_45 4 rfl (by first | rfl | (congr 1; decide)) (by decide) rfl ?_
        refine jw_goto (tgt := 8) hX dX7_has_48 (by decide) ?_
        refine jw_sub [2, 3, 4, 1, 0] [(0, .ref a), (1, .int v1), (2, .int v2), (3, .int (1 : Int32)), (4, .int (v4 + (1 : Int32)))] rfl ?_
        exact hrec w _ _ _ _ h
      · rw [if_pos hc] at h
        refine jw_aload_n hX dX7_has_28 rfl 0 rfl ?_
        refine jw_mgetA hX hT inX7_has 10 (by decide) lkX7_has_32 rfl dX7_has_29 ?_
        refine jw_iload hX dX7_has_32 4 rfl ?_
        obtain ⟨hb34, h⟩ := chk_some h
        refine jw_miald hX hT 7 10 rfl rfl hb34 dX7_has_34 ?_
        refine jw_iload_n hX dX7_has_35 rfl 2 rfl ?_
        refine jw_icmp_ne (tgt := 43) hX dX7_has_36 (by decide) (fun hc => ?_) (fun hc => ?_)
        · rw [if_neg hc] at h
          refine jw_iconst (v := (0 : Int32)) hX dX7_has_43 (by decide) ?_
          refine jw_istore_n hX [(3, .int (0 : Int32)), (0, .ref a), (1, .int v1), (2, .int v2), (4, .int v4)] dX7_has_44 rfl (by decide) rfl ?_
          refine jw_iinc (v := (v4 + (1 : Int32))) hX [(4, .int (v4 + (1 : Int32))), (3, .int (0 : Int32)), (0, .ref a), (1, .int v1), (2, .int v2)] dX7_has_45 4 rfl (by first | rfl | (congr 1; decide)) (by decide) rfl ?_
          refine jw_goto (tgt := 8) hX dX7_has_48 (by decide) ?_
          refine jw_sub [2, 3, 4, 1, 0] [(0, .ref a), (1, .int v1), (2, .int v2), (3, .int (0 : Int32)), (4, .int (v4 + (1 : Int32)))] rfl ?_
          exact hrec w _ _ _ _ h
        · rw [if_pos hc] at h
          refine jw_iconst (v := (1 : Int32)) hX dX7_has_39 (by decide) ?_
          refine jw_goto (tgt := 44) hX dX7_has_40 (by decide) ?_
          refine jw_istore_n hX [(3, .int (1 : Int32)), (0, .ref a), (1, .int v1), (2, .int v2), (4, .int v4)] dX7_has_44 rfl (by decide) rfl ?_
          refine jw_iinc (v := (v4 + (1 : Int32))) hX [(4, .int (v4 + (1 : Int32))), (3, .int (1 : Int32)), (0, .ref a), (1, .int v1), (2, .int v2)] dX7_has_45 4 rfl (by first | rfl | (congr 1; decide)) (by decide) rfl ?_
          refine jw_goto (tgt := 8) hX dX7_has_48 (by decide) ?_
          refine jw_sub [2, 3, 4, 1, 0] [(0, .ref a), (1, .int v1), (2, .int v2), (3, .int (1 : Int32)), (4, .int (v4 + (1 : Int32)))] rfl ?_
          exact hrec w _ _ _ _ h
set_option maxRecDepth 100000 in
set_option maxHeartbeats 4000000 in
theorem sX7_has {X : JX} {a : Nat} {ad : Nat → Nat} {cI cZ cO cJ : ClassId} {n : Nat} {w : MW} {post : Option Value → va_W → Prop} (hX : jOK X cX7_has 5 wsX7_has RX7 rmX7_has) (hT : jT X = jTy cI cZ cO cJ) (hGX : jG X jG0) (hret : jRZ X cX7_has rmX7_has post) {o : Int32} (hro : ∀ v9 : Int32, o = v9 → post (some (.int v9)) (mW a ad cI cZ w)) {v1 v2 : Int32} (h : fX7_has n w v1 v2 = some o) : JW X 0 0 (mW a ad cI cZ w) 0 [(0, .ref a), (1, .int v1), (2, .int v2)] [] := by
  unfold fX7_has at h
  refine jw_iconst (v := (0 : Int32)) hX dX7_has_0 (by decide) ?_
  refine jw_istore_n hX [(3, .int (0 : Int32)), (0, .ref a), (1, .int v1), (2, .int v2)] dX7_has_1 rfl (by decide) rfl ?_
  refine jw_bipush (v := (16 : Int32)) hX dX7_has_2 (by decide) ?_
  refine jw_iload_n hX dX7_has_4 rfl 2 rfl ?_
  refine jw_imul hX dX7_has_5 ?_
  refine jw_topi (fun y6 e6 => ?_)
  replace h := bnd_some h y6 e6
  clear e6
  refine jw_istore hX [(4, .int y6), (3, .int (0 : Int32)), (0, .ref a), (1, .int v1), (2, .int v2)] dX7_has_6 (by decide) rfl ?_
  refine jw_sub [2, 3, 4, 1, 0] [(0, .ref a), (1, .int v1), (2, .int v2), (3, .int (0 : Int32)), (4, .int y6)] rfl ?_
  obtain ⟨x3_8, hl8, h⟩ := bL1_some h
  refine sX7_has_L8 hX hT hGX hret (o := x3_8) (fun q0 e9 => ?_) n _ _ _ _ hl8
  cases e9
  refine jw_iload_n hX dX7_has_51 rfl 0 rfl ?_
  obtain ⟨hz52, h⟩ := chk_some h
  exact hret _ _ _ _ _ _ (b01_or hz52) (Nat.zero_le _) (Nat.zero_le _) dX7_has_52 (hro _ (Option.some.inj h).symm)
set_option maxRecDepth 100000 in
set_option maxHeartbeats 4000000 in
theorem kX7_has {l : Launch} {D : va_G} {tys : List (ClassId × FieldType)} {a : Nat} {ad : Nat → Nat} {cI cZ cO cJ : ClassId} {n : Nat} {w : MW} {v1 v2 : Int32} {r : Int32} (hT : tys = jTy cI cZ cO cJ) (h : fX7_has n w v1 v2 = some r) : CC l jG0 D tys yX7_has wsX7_has rmX7_has [.ref a, .int v1, .int v2] (mW a ad cI cZ w) (fun ov w2 => ov = some (.int r) ∧ w2 = (mW a ad cI cZ w)) := by
  refine CC_of (cc := cX7_has) (maxL := 5) (ret := (some .boolean)) (by decide) rfl (Nat.le_of_ble_eq_true rfl) ?_
  intro X hD hL hT0 hGX hX rI rZ rV rA
  exact sX7_has (post := fun ov w2 => ov = some (.int r) ∧ w2 = (mW a ad cI cZ w)) hX (hT0.trans hT) hGX (fun cells slots w9 pc lv v => rZ cells slots w9 pc lv v rfl) (o := r) (fun v9 e9 => by cases e9; exact ⟨rfl, rfl⟩) h
/-! X7_upTo -/
abbrev rmX7_upTo : Room := { frames := 2, cells := 0, slots := 0, locals := 45 }
theorem hdX7_upTo : yX7_upTo.cls = RX7 ∧ yX7_upTo.cls ≠ "java/lang/invoke/MethodHandle" ∧ yX7_upTo.cls ≠ "java/lang/invoke/VarHandle" ∧ (parseMethodDescriptor yX7_upTo.desc).map (fun d => d.parameters.length) = some 2 := by decide +kernel
def fX7_upTo_L5 (n : Nat) : Nat → MW → Int32 → Int32 → Int32 → Int32 → Option (Int32)
  | 0, _, _, _, _, _ => none
  | k + 1, w, v1, v2, v3, v4 => (if v1 < v4 then some (v3) else bP (fX7_got n w v4 v2) (fun r16 => bnd ((v3 + r16)) (fun y20 => fX7_upTo_L5 n k w v1 v2 y20 ((v4 + (1 : Int32))))))
def fX7_upTo (n : Nat) (w : MW) (v1 v2 : Int32) : Option Int32 := bL1 (fX7_upTo_L5 n n w v1 v2 (0 : Int32) (0 : Int32)) (fun x3_5 => some x3_5)
set_option maxRecDepth 100000 in
set_option maxHeartbeats 4000000 in
theorem sX7_upTo_L5 {X : JX} {a : Nat} {ad : Nat → Nat} {cI cZ cO cJ : ClassId} {n : Nat} {w : MW} {post : Option Value → va_W → Prop} (hX : jOK X cX7_upTo 5 wsX7_upTo RX7 rmX7_upTo) (hT : jT X = jTy cI cZ cO cJ) (hGX : jG X jG0) (hret : jRI X cX7_upTo rmX7_upTo post) {o : (Int32)} (hex : ∀ (x3 : Int32), o = x3 → JW X 0 0 (mW a ad cI cZ w) 27 [(3, .int x3)] [])  : ∀ (k : Nat) (v1 v2 v3 v4 : Int32), fX7_upTo_L5 n k w v1 v2 v3 v4 = some o → JW X 0 0 (mW a ad cI cZ w) 5 [(0, .ref a), (1, .int v1), (2, .int v2), (3, .int v3), (4, .int v4)] [] := by
  intro k
  induction k with
  | zero => intro v1 v2 v3 v4 h; cases h
  | succ k hrec0 =>
    intro v1 v2 v3 v4 h
    have hrec := fun (_ : MW) => hrec0
    unfold fX7_upTo_L5 at h
    refine jw_iload hX dX7_upTo_5 4 rfl ?_
    refine jw_iload_n hX dX7_upTo_7 rfl 1 rfl ?_
    refine jw_icmp_gt (tgt := 27) hX dX7_upTo_8 (by decide) (fun hc => ?_) (fun hc => ?_)
    · rw [if_pos hc] at h
      refine jw_sub [3] [(3, .int v3)] rfl ?_
      exact hex _ (Option.some.inj h).symm
    · rw [if_neg hc] at h
      refine jw_iload_n hX dX7_upTo_11 rfl 3 rfl ?_
      refine jw_aload_n hX dX7_upTo_12 rfl 0 rfl ?_
      refine jw_iload hX dX7_upTo_13 4 rfl ?_
      refine jw_iload_n hX dX7_upTo_15 rfl 2 rfl ?_
      obtain ⟨r16, hc16, h⟩ := bP_some h
      refine jw_cVi (As := [.int v4, .int v2]) hX jG0_ok hGX 2 (kX7_got hT hc16) gX7_upTo_X7_got rfl hdX7_got ⟨by decide, by decide⟩ 0 7 rfl rfl rfl (Nat.le_of_ble_eq_true rfl) dX7_upTo_16 rfl rfl ⟨by decide, by decide⟩ ?_
      refine jw_iadd hX dX7_upTo_19 ?_
      refine jw_topi (fun y20 e20 => ?_)
      replace h := bnd_some h y20 e20
      clear e20
      refine jw_istore_n hX [(3, .int y20), (0, .ref a), (1, .int v1), (2, .int v2), (4, .int v4)] dX7_upTo_20 rfl (by decide) rfl ?_
      refine jw_iinc (v := (v4 + (1 : Int32))) hX [(4, .int (v4 + (1 : Int32))), (3, .int y20), (0, .ref a), (1, .int v1), (2, .int v2)] dX7_upTo_21 4 rfl (by first | rfl | (congr 1; decide)) (by decide) rfl ?_
      refine jw_goto (tgt := 5) hX dX7_upTo_24 (by decide) ?_
      refine jw_sub [2, 3, 4, 1, 0] [(0, .ref a), (1, .int v1), (2, .int v2), (3, .int y20), (4, .int (v4 + (1 : Int32)))] rfl ?_
      exact hrec w _ _ _ _ h
set_option maxRecDepth 100000 in
set_option maxHeartbeats 4000000 in
theorem sX7_upTo {X : JX} {a : Nat} {ad : Nat → Nat} {cI cZ cO cJ : ClassId} {n : Nat} {w : MW} {post : Option Value → va_W → Prop} (hX : jOK X cX7_upTo 5 wsX7_upTo RX7 rmX7_upTo) (hT : jT X = jTy cI cZ cO cJ) (hGX : jG X jG0) (hret : jRI X cX7_upTo rmX7_upTo post) {o : Int32} (hro : ∀ v9 : Int32, o = v9 → post (some (.int v9)) (mW a ad cI cZ w)) {v1 v2 : Int32} (h : fX7_upTo n w v1 v2 = some o) : JW X 0 0 (mW a ad cI cZ w) 0 [(0, .ref a), (1, .int v1), (2, .int v2)] [] := by
  unfold fX7_upTo at h
  refine jw_iconst (v := (0 : Int32)) hX dX7_upTo_0 (by decide) ?_
  refine jw_istore_n hX [(3, .int (0 : Int32)), (0, .ref a), (1, .int v1), (2, .int v2)] dX7_upTo_1 rfl (by decide) rfl ?_
  refine jw_iconst (v := (0 : Int32)) hX dX7_upTo_2 (by decide) ?_
  refine jw_istore hX [(4, .int (0 : Int32)), (3, .int (0 : Int32)), (0, .ref a), (1, .int v1), (2, .int v2)] dX7_upTo_3 (by decide) rfl ?_
  refine jw_sub [2, 3, 4, 1, 0] [(0, .ref a), (1, .int v1), (2, .int v2), (3, .int (0 : Int32)), (4, .int (0 : Int32))] rfl ?_
  obtain ⟨x3_5, hl5, h⟩ := bL1_some h
  refine sX7_upTo_L5 hX hT hGX hret (o := x3_5) (fun q0 e9 => ?_) n _ _ _ _ hl5
  cases e9
  refine jw_iload_n hX dX7_upTo_27 rfl 0 rfl ?_
  exact hret _ _ _ _ _ _ (Nat.zero_le _) (Nat.zero_le _) dX7_upTo_28 (hro _ (Option.some.inj h).symm)
set_option maxRecDepth 100000 in
set_option maxHeartbeats 4000000 in
theorem kX7_upTo {l : Launch} {D : va_G} {tys : List (ClassId × FieldType)} {a : Nat} {ad : Nat → Nat} {cI cZ cO cJ : ClassId} {n : Nat} {w : MW} {v1 v2 : Int32} {r : Int32} (hT : tys = jTy cI cZ cO cJ) (h : fX7_upTo n w v1 v2 = some r) : CC l jG0 D tys yX7_upTo wsX7_upTo rmX7_upTo [.ref a, .int v1, .int v2] (mW a ad cI cZ w) (fun ov w2 => ov = some (.int r) ∧ w2 = (mW a ad cI cZ w)) := by
  refine CC_of (cc := cX7_upTo) (maxL := 5) (ret := (some .int)) (by decide) rfl (Nat.le_of_ble_eq_true rfl) ?_
  intro X hD hL hT0 hGX hX rI rZ rV rA
  exact sX7_upTo (post := fun ov w2 => ov = some (.int r) ∧ w2 = (mW a ad cI cZ w)) hX (hT0.trans hT) hGX (fun cells slots w9 pc lv v => rI cells slots w9 pc lv v rfl) (o := r) (fun v9 e9 => by cases e9; exact ⟨rfl, rfl⟩) h
