/-! X7_rule -/
abbrev rmX7_rule : Room := { frames := 1, cells := 0, slots := 0, locals := 22 }
theorem hdX7_rule : yX7_rule.cls = RX7 ∧ yX7_rule.cls ≠ "java/lang/invoke/MethodHandle" ∧ yX7_rule.cls ≠ "java/lang/invoke/VarHandle" ∧ (parseMethodDescriptor yX7_rule.desc).map (fun d => d.parameters.length) = some 4 := by decide +kernel
theorem inX7_rule : ∀ w ∈ wsX70, w ∈ wsX7_rule := fun _ h => List.mem_cons_of_mem _ (List.mem_append_right _ h)
theorem lkX7_rule_215 : Cond.fieldLink RX7 215 "PostlintModel" (TX7 15).2.1 (TX7 15).2.2.1 ∈ wsX7_rule := by decide +kernel
theorem lkX7_rule_47 : Cond.fieldLink RX7 47 "PostlintModel" (TX7 16).2.1 (TX7 16).2.2.1 ∈ wsX7_rule := by decide +kernel
theorem lkX7_rule_50 : Cond.fieldLink RX7 50 "PostlintModel" (TX7 17).2.1 (TX7 17).2.2.1 ∈ wsX7_rule := by decide +kernel
theorem lkX7_rule_53 : Cond.fieldLink RX7 53 "PostlintModel" (TX7 18).2.1 (TX7 18).2.2.1 ∈ wsX7_rule := by decide +kernel
theorem lkX7_rule_56 : Cond.fieldLink RX7 56 "PostlintModel" (TX7 19).2.1 (TX7 19).2.2.1 ∈ wsX7_rule := by decide +kernel
theorem lkX7_rule_59 : Cond.fieldLink RX7 59 "PostlintModel" (TX7 20).2.1 (TX7 20).2.2.1 ∈ wsX7_rule := by decide +kernel
def fX7_rule_J94 (w : MW) (v1 v2 v3 v4 t0 : Int32) : Option (Int32 × MW) := b2 (fX7_isOf w t0) (fun r94 w94 => (if ¬ r94 = 0 then chk (inB (w94.1 15) (mLen 16)) (bnd (mA w94 16 ((w94.1 15)).toNatClampNeg v1) (fun w111 => chk (inB (w111.1 15) (mLen 17)) (bnd (mA w111 17 ((w111.1 15)).toNatClampNeg v2) (fun w121 => chk (inB (w121.1 15) (mLen 18)) (bnd (mA w121 18 ((w121.1 15)).toNatClampNeg v3) (fun w131 => chk (inB (w131.1 15) (mLen 19)) (bnd (mA w131 19 ((w131.1 15)).toNatClampNeg v4) (fun w142 => chk (inB (w142.1 15) (mLen 20)) (chk (b01 (0 : Int32)) (bnd (mA w142 20 ((w142.1 15)).toNatClampNeg (0 : Int32)) (fun w152 => bnd (mS w152 15 ((w152.1 15) + (1 : Int32))) (fun w160 => some (((w160.1 15) - (1 : Int32)), w160))))))))))))) else some ((0 : Int32), w94)))
def fX7_rule_J68 (w : MW) (v1 v2 v3 v4 t0 : Int32) : Option (Int32 × MW) := (if ¬ t0 = 0 then (if ¬ (w.1 15) = (8 : Int32) then fX7_rule_J94 w v1 v2 v3 v4 (0 : Int32) else fX7_rule_J94 w v1 v2 v3 v4 (2 : Int32)) else fX7_rule_J94 w v1 v2 v3 v4 (1 : Int32))
def fX7_rule_J67 (w : MW) (v1 v2 v3 v4 : Int32) : Option (Int32 × MW) := fX7_rule_J68 w v1 v2 v3 v4 (0 : Int32)
def fX7_rule_J63 (w : MW) (v1 v2 v3 v4 : Int32) : Option (Int32 × MW) := fX7_rule_J68 w v1 v2 v3 v4 (1 : Int32)
def fX7_rule_J53 (w : MW) (v1 v2 v3 v4 : Int32) : Option (Int32 × MW) := (if ¬ v1 = (2 : Int32) then fX7_rule_J63 w v1 v2 v3 v4 else (if v2 = v3 then fX7_rule_J67 w v1 v2 v3 v4 else fX7_rule_J63 w v1 v2 v3 v4))
def fX7_rule (w : MW) (v1 v2 v3 v4 : Int32) : Option (Int32 × MW) := bP (fX7_isIn v1 (0 : Int32) (3 : Int32)) (fun r3 => (if r3 = 0 then fX7_rule_J67 w v1 v2 v3 v4 else bP (fX7_isIn v2 (0 : Int32) (7 : Int32)) (fun r13 => (if r13 = 0 then fX7_rule_J67 w v1 v2 v3 v4 else bP (fX7_isIn v3 (0 : Int32) (7 : Int32)) (fun r23 => (if r23 = 0 then fX7_rule_J67 w v1 v2 v3 v4 else bP (fX7_isIn v4 (-999 : Int32) (999 : Int32)) (fun r37 => (if r37 = 0 then fX7_rule_J67 w v1 v2 v3 v4 else (if ¬ v1 = (1 : Int32) then fX7_rule_J53 w v1 v2 v3 v4 else (if v4 < 0 then fX7_rule_J67 w v1 v2 v3 v4 else fX7_rule_J53 w v1 v2 v3 v4))))))))))
set_option maxRecDepth 100000 in
set_option maxHeartbeats 4000000 in
theorem sX7_rule_J94 {X : JX} {a : Nat} {ad : Nat → Nat} {cI cZ cO cJ : ClassId} {post : Option Value → va_W → Prop} (hX : jOK X cX7_rule 6 wsX7_rule RX7 rmX7_rule) (hT : jT X = jTy cI cZ cO cJ) (hGX : jG X jG0) (hret : jRI X cX7_rule rmX7_rule post) {o : (Int32 × MW)}   (hro : ∀ (v9 : Int32) (w9 : MW), o = (v9, w9) → post (some (.int v9)) (mW a ad cI cZ w9)) {w : MW} {v1 v2 v3 v4 t0 : Int32} (h : fX7_rule_J94 w v1 v2 v3 v4 t0 = some o) : JW X 0 0 (mW a ad cI cZ w) 94 [(0, .ref a), (1, .int v1), (2, .int v2), (3, .int v3), (4, .int v4)] [.int t0, .ref a] := by
  unfold fX7_rule_J94 at h
  obtain ⟨r94, w94, hc94, h⟩ := b2_some h
  refine jw_cVi (As := [.int t0]) hX jG0_ok hGX 1 (kX7_isOf hT hc94) gX7_rule_X7_isOf rfl hdX7_isOf ⟨by decide, by decide⟩ 0 7 rfl rfl rfl (by decide) dX7_rule_94 rfl rfl ⟨by decide, by decide⟩ ?_
  refine jw_if_ne (tgt := 102) hX dX7_rule_97 (by decide) (fun hc => ?_) (fun hc => ?_)
  · rw [if_pos hc] at h
    refine jw_aload_n hX dX7_rule_102 rfl 0 rfl ?_
    refine jw_mgetA hX hT inX7_rule 16 (by decide) lkX7_rule_47 rfl dX7_rule_103 ?_
    refine jw_aload_n hX dX7_rule_106 rfl 0 rfl ?_
    refine jw_mgetI hX hT inX7_rule 15 (by decide) lkX7_rule_215 rfl dX7_rule_107 ?_
    refine jw_iload_n hX dX7_rule_110 rfl 1 rfl ?_
    obtain ⟨hb111, h⟩ := chk_some h
    refine jw_miast hX hT 12 16 rfl rfl hb111 dX7_rule_111 (fun w111 e111 => ?_)
    replace h := bnd_some h w111 e111
    clear e111
    refine jw_aload_n hX dX7_rule_112 rfl 0 rfl ?_
    refine jw_mgetA hX hT inX7_rule 17 (by decide) lkX7_rule_50 rfl dX7_rule_113 ?_
    refine jw_aload_n hX dX7_rule_116 rfl 0 rfl ?_
    refine jw_mgetI hX hT inX7_rule 15 (by decide) lkX7_rule_215 rfl dX7_rule_117 ?_
    refine jw_iload_n hX dX7_rule_120 rfl 2 rfl ?_
    obtain ⟨hb121, h⟩ := chk_some h
    refine jw_miast hX hT 13 17 rfl rfl hb121 dX7_rule_121 (fun w121 e121 => ?_)
    replace h := bnd_some h w121 e121
    clear e121
    refine jw_aload_n hX dX7_rule_122 rfl 0 rfl ?_
    refine jw_mgetA hX hT inX7_rule 18 (by decide) lkX7_rule_53 rfl dX7_rule_123 ?_
    refine jw_aload_n hX dX7_rule_126 rfl 0 rfl ?_
    refine jw_mgetI hX hT inX7_rule 15 (by decide) lkX7_rule_215 rfl dX7_rule_127 ?_
    refine jw_iload_n hX dX7_rule_130 rfl 3 rfl ?_
    obtain ⟨hb131, h⟩ := chk_some h
    refine jw_miast hX hT 14 18 rfl rfl hb131 dX7_rule_131 (fun w131 e131 => ?_)
    replace h := bnd_some h w131 e131
    clear e131
    refine jw_aload_n hX dX7_rule_132 rfl 0 rfl ?_
    refine jw_mgetA hX hT inX7_rule 19 (by decide) lkX7_rule_56 rfl dX7_rule_133 ?_
    refine jw_aload_n hX dX7_rule_136 rfl 0 rfl ?_
    refine jw_mgetI hX hT inX7_rule 15 (by decide) lkX7_rule_215 rfl dX7_rule_137 ?_
    refine jw_iload hX dX7_rule_140 4 rfl ?_
    obtain ⟨hb142, h⟩ := chk_some h
    refine jw_miast hX hT 15 19 rfl rfl hb142 dX7_rule_142 (fun w142 e142 => ?_)
    replace h := bnd_some h w142 e142
    clear e142
    refine jw_aload_n hX dX7_rule_143 rfl 0 rfl ?_
    refine jw_mgetA hX hT inX7_rule 20 (by decide) lkX7_rule_59 rfl dX7_rule_144 ?_
    refine jw_aload_n hX dX7_rule_147 rfl 0 rfl ?_
    refine jw_mgetI hX hT inX7_rule 15 (by decide) lkX7_rule_215 rfl dX7_rule_148 ?_
    refine jw_iconst (v := (0 : Int32)) hX dX7_rule_151 (by decide) ?_
    obtain ⟨hb152, h⟩ := chk_some h
    obtain ⟨hz152, h⟩ := chk_some h
    refine jw_mzast hX hT 16 20 rfl rfl hb152 hz152 dX7_rule_152 (fun w152 e152 => ?_)
    replace h := bnd_some h w152 e152
    clear e152
    refine jw_aload_n hX dX7_rule_153 rfl 0 rfl ?_
    refine jw_dup hX dX7_rule_154 rfl ?_
    refine jw_mgetI hX hT inX7_rule 15 (by decide) lkX7_rule_215 rfl dX7_rule_155 ?_
    refine jw_iconst (v := (1 : Int32)) hX dX7_rule_158 (by decide) ?_
    refine jw_iadd hX dX7_rule_159 ?_
    refine jw_mputI hX hT inX7_rule 15 (by decide) lkX7_rule_215 rfl dX7_rule_160 (fun w160 e160 => ?_)
    replace h := bnd_some h w160 e160
    clear e160
    refine jw_aload_n hX dX7_rule_163 rfl 0 rfl ?_
    refine jw_mgetI hX hT inX7_rule 15 (by decide) lkX7_rule_215 rfl dX7_rule_164 ?_
    refine jw_iconst (v := (1 : Int32)) hX dX7_rule_167 (by decide) ?_
    refine jw_isub hX dX7_rule_168 ?_
    exact hret _ _ _ _ _ _ (Nat.zero_le _) (Nat.zero_le _) dX7_rule_169 (hro _ _ (Option.some.inj h).symm)
  · rw [if_neg hc] at h
    refine jw_iconst (v := (0 : Int32)) hX dX7_rule_100 (by decide) ?_
    exact hret _ _ _ _ _ _ (Nat.zero_le _) (Nat.zero_le _) dX7_rule_101 (hro _ _ (Option.some.inj h).symm)
set_option maxRecDepth 100000 in
set_option maxHeartbeats 4000000 in
theorem sX7_rule_J68 {X : JX} {a : Nat} {ad : Nat → Nat} {cI cZ cO cJ : ClassId} {post : Option Value → va_W → Prop} (hX : jOK X cX7_rule 6 wsX7_rule RX7 rmX7_rule) (hT : jT X = jTy cI cZ cO cJ) (hGX : jG X jG0) (hret : jRI X cX7_rule rmX7_rule post) {o : (Int32 × MW)}   (hro : ∀ (v9 : Int32) (w9 : MW), o = (v9, w9) → post (some (.int v9)) (mW a ad cI cZ w9)) {w : MW} {v1 v2 v3 v4 t0 : Int32} (h : fX7_rule_J68 w v1 v2 v3 v4 t0 = some o) : JW X 0 0 (mW a ad cI cZ w) 68 [(0, .ref a), (1, .int v1), (2, .int v2), (3, .int v3), (4, .int v4)] [.int t0] := by
  unfold fX7_rule_J68 at h
  refine jw_istore hX [(5, .int t0), (0, .ref a), (1, .int v1), (2, .int v2), (3, .int v3), (4, .int v4)] dX7_rule_68 (by decide) rfl ?_
  refine jw_aload_n hX dX7_rule_70 rfl 1 rfl ?_
  refine jw_iload hX dX7_rule_71 0 rfl ?_
  refine jw_if_ne (tgt := 80) hX dX7_rule_73 (by decide) (fun hc => ?_) (fun hc => ?_)
  · rw [if_pos hc] at h
    refine jw_aload_n hX dX7_rule_80 rfl 1 rfl ?_
    refine jw_mgetI hX hT inX7_rule 15 (by decide) lkX7_rule_215 rfl dX7_rule_81 ?_
    refine jw_bipush (v := (8 : Int32)) hX dX7_rule_84 (by decide) ?_
    refine jw_icmp_ne (tgt := 93) hX dX7_rule_86 (by decide) (fun hc => ?_) (fun hc => ?_)
    · rw [if_pos hc] at h
      refine jw_iconst (v := (0 : Int32)) hX dX7_rule_93 (by decide) ?_
      refine jw_sub [1, 2, 3, 4, 5] [(0, .ref a), (1, .int v1), (2, .int v2), (3, .int v3), (4, .int v4)] rfl ?_
      exact sX7_rule_J94 hX hT hGX hret hro h
    · rw [if_neg hc] at h
      refine jw_iconst (v := (2 : Int32)) hX dX7_rule_89 (by decide) ?_
      refine jw_goto (tgt := 94) hX dX7_rule_90 (by decide) ?_
      refine jw_sub [1, 2, 3, 4, 5] [(0, .ref a), (1, .int v1), (2, .int v2), (3, .int v3), (4, .int v4)] rfl ?_
      exact sX7_rule_J94 hX hT hGX hret hro h
  · rw [if_neg hc] at h
    refine jw_iconst (v := (1 : Int32)) hX dX7_rule_76 (by decide) ?_
    refine jw_goto (tgt := 94) hX dX7_rule_77 (by decide) ?_
    refine jw_sub [1, 2, 3, 4, 5] [(0, .ref a), (1, .int v1), (2, .int v2), (3, .int v3), (4, .int v4)] rfl ?_
    exact sX7_rule_J94 hX hT hGX hret hro h
set_option maxRecDepth 100000 in
set_option maxHeartbeats 4000000 in
theorem sX7_rule_J67 {X : JX} {a : Nat} {ad : Nat → Nat} {cI cZ cO cJ : ClassId} {post : Option Value → va_W → Prop} (hX : jOK X cX7_rule 6 wsX7_rule RX7 rmX7_rule) (hT : jT X = jTy cI cZ cO cJ) (hGX : jG X jG0) (hret : jRI X cX7_rule rmX7_rule post) {o : (Int32 × MW)}   (hro : ∀ (v9 : Int32) (w9 : MW), o = (v9, w9) → post (some (.int v9)) (mW a ad cI cZ w9)) {w : MW} {v1 v2 v3 v4 : Int32} (h : fX7_rule_J67 w v1 v2 v3 v4 = some o) : JW X 0 0 (mW a ad cI cZ w) 67 [(0, .ref a), (1, .int v1), (2, .int v2), (3, .int v3), (4, .int v4)] [] := by
  unfold fX7_rule_J67 at h
  refine jw_iconst (v := (0 : Int32)) hX dX7_rule_67 (by decide) ?_
  exact sX7_rule_J68 hX hT hGX hret hro h
set_option maxRecDepth 100000 in
set_option maxHeartbeats 4000000 in
theorem sX7_rule_J63 {X : JX} {a : Nat} {ad : Nat → Nat} {cI cZ cO cJ : ClassId} {post : Option Value → va_W → Prop} (hX : jOK X cX7_rule 6 wsX7_rule RX7 rmX7_rule) (hT : jT X = jTy cI cZ cO cJ) (hGX : jG X jG0) (hret : jRI X cX7_rule rmX7_rule post) {o : (Int32 × MW)}   (hro : ∀ (v9 : Int32) (w9 : MW), o = (v9, w9) → post (some (.int v9)) (mW a ad cI cZ w9)) {w : MW} {v1 v2 v3 v4 : Int32} (h : fX7_rule_J63 w v1 v2 v3 v4 = some o) : JW X 0 0 (mW a ad cI cZ w) 63 [(0, .ref a), (1, .int v1), (2, .int v2), (3, .int v3), (4, .int v4)] [] := by
  unfold fX7_rule_J63 at h
  refine jw_iconst (v := (1 : Int32)) hX dX7_rule_63 (by decide) ?_
  refine jw_goto (tgt := 68) hX dX7_rule_64 (by decide) ?_
  exact sX7_rule_J68 hX hT hGX hret hro h
set_option maxRecDepth 100000 in
set_option maxHeartbeats 4000000 in
theorem sX7_rule_J53 {X : JX} {a : Nat} {ad : Nat → Nat} {cI cZ cO cJ : ClassId} {post : Option Value → va_W → Prop} (hX : jOK X cX7_rule 6 wsX7_rule RX7 rmX7_rule) (hT : jT X = jTy cI cZ cO cJ) (hGX : jG X jG0) (hret : jRI X cX7_rule rmX7_rule post) {o : (Int32 × MW)}   (hro : ∀ (v9 : Int32) (w9 : MW), o = (v9, w9) → post (some (.int v9)) (mW a ad cI cZ w9)) {w : MW} {v1 v2 v3 v4 : Int32} (h : fX7_rule_J53 w v1 v2 v3 v4 = some o) : JW X 0 0 (mW a ad cI cZ w) 53 [(0, .ref a), (1, .int v1), (2, .int v2), (3, .int v3), (4, .int v4)] [] := by
  unfold fX7_rule_J53 at h
  refine jw_iload_n hX dX7_rule_53 rfl 1 rfl ?_
  refine jw_iconst (v := (2 : Int32)) hX dX7_rule_54 (by decide) ?_
  refine jw_icmp_ne (tgt := 63) hX dX7_rule_55 (by decide) (fun hc => ?_) (fun hc => ?_)
  · rw [if_pos hc] at h
    exact sX7_rule_J63 hX hT hGX hret hro h
  · rw [if_neg hc] at h
    refine jw_iload_n hX dX7_rule_58 rfl 2 rfl ?_
    refine jw_iload_n hX dX7_rule_59 rfl 3 rfl ?_
    refine jw_icmp_eq (tgt := 67) hX dX7_rule_60 (by decide) (fun hc => ?_) (fun hc => ?_)
    · rw [if_pos hc] at h
      exact sX7_rule_J67 hX hT hGX hret hro h
    · rw [if_neg hc] at h
      exact sX7_rule_J63 hX hT hGX hret hro h
set_option maxRecDepth 100000 in
set_option maxHeartbeats 4000000 in
theorem sX7_rule {X : JX} {a : Nat} {ad : Nat → Nat} {cI cZ cO cJ : ClassId} {post : Option Value → va_W → Prop} (hX : jOK X cX7_rule 6 wsX7_rule RX7 rmX7_rule) (hT : jT X = jTy cI cZ cO cJ) (hGX : jG X jG0) (hret : jRI X cX7_rule rmX7_rule post) {o : (Int32 × MW)} (hro : ∀ (v9 : Int32) (w9 : MW), o = (v9, w9) → post (some (.int v9)) (mW a ad cI cZ w9)) {w : MW} {v1 v2 v3 v4 : Int32} (h : fX7_rule w v1 v2 v3 v4 = some o) : JW X 0 0 (mW a ad cI cZ w) 0 [(0, .ref a), (1, .int v1), (2, .int v2), (3, .int v3), (4, .int v4)] [] := by
  unfold fX7_rule at h
  refine jw_iload_n hX dX7_rule_0 rfl 1 rfl ?_
  refine jw_iconst (v := (0 : Int32)) hX dX7_rule_1 (by decide) ?_
  refine jw_iconst (v := (3 : Int32)) hX dX7_rule_2 (by decide) ?_
  obtain ⟨r3, hc3, h⟩ := bP_some h
  refine jw_cSi (As := [.int v1, .int (0 : Int32), .int (3 : Int32)]) hX jG0_ok hGX 3 (kX7_isIn hT hc3) gX7_rule_X7_isIn rfl hdX7_isIn ⟨by decide, by decide⟩ rfl (by decide) dX7_rule_3 rfl rfl ⟨by decide, by decide⟩ ?_
  refine jw_if_eq (tgt := 67) hX dX7_rule_6 (by decide) (fun hc => ?_) (fun hc => ?_)
  · rw [if_pos hc] at h
    exact sX7_rule_J67 hX hT hGX hret hro h
  · rw [if_neg hc] at h
    refine jw_iload_n hX dX7_rule_9 rfl 2 rfl ?_
    refine jw_iconst (v := (0 : Int32)) hX dX7_rule_10 (by decide) ?_
    refine jw_bipush (v := (7 : Int32)) hX dX7_rule_11 (by decide) ?_
    obtain ⟨r13, hc13, h⟩ := bP_some h
    refine jw_cSi (As := [.int v2, .int (0 : Int32), .int (7 : Int32)]) hX jG0_ok hGX 3 (kX7_isIn hT hc13) gX7_rule_X7_isIn rfl hdX7_isIn ⟨by decide, by decide⟩ rfl (by decide) dX7_rule_13 rfl rfl ⟨by decide, by decide⟩ ?_
    refine jw_if_eq (tgt := 67) hX dX7_rule_16 (by decide) (fun hc => ?_) (fun hc => ?_)
    · rw [if_pos hc] at h
      exact sX7_rule_J67 hX hT hGX hret hro h
    · rw [if_neg hc] at h
      refine jw_iload_n hX dX7_rule_19 rfl 3 rfl ?_
      refine jw_iconst (v := (0 : Int32)) hX dX7_rule_20 (by decide) ?_
      refine jw_bipush (v := (7 : Int32)) hX dX7_rule_21 (by decide) ?_
      obtain ⟨r23, hc23, h⟩ := bP_some h
      refine jw_cSi (As := [.int v3, .int (0 : Int32), .int (7 : Int32)]) hX jG0_ok hGX 3 (kX7_isIn hT hc23) gX7_rule_X7_isIn rfl hdX7_isIn ⟨by decide, by decide⟩ rfl (by decide) dX7_rule_23 rfl rfl ⟨by decide, by decide⟩ ?_
      refine jw_if_eq (tgt := 67) hX dX7_rule_26 (by decide) (fun hc => ?_) (fun hc => ?_)
      · rw [if_pos hc] at h
        exact sX7_rule_J67 hX hT hGX hret hro h
      · rw [if_neg hc] at h
        refine jw_iload hX dX7_rule_29 4 rfl ?_
        refine jw_sipush (v := (-999 : Int32)) hX dX7_rule_31 (by decide) ?_
        refine jw_sipush (v := (999 : Int32)) hX dX7_rule_34 (by decide) ?_
        obtain ⟨r37, hc37, h⟩ := bP_some h
        refine jw_cSi (As := [.int v4, .int (-999 : Int32), .int (999 : Int32)]) hX jG0_ok hGX 3 (kX7_isIn hT hc37) gX7_rule_X7_isIn rfl hdX7_isIn ⟨by decide, by decide⟩ rfl (by decide) dX7_rule_37 rfl rfl ⟨by decide, by decide⟩ ?_
        refine jw_if_eq (tgt := 67) hX dX7_rule_40 (by decide) (fun hc => ?_) (fun hc => ?_)
        · rw [if_pos hc] at h
          exact sX7_rule_J67 hX hT hGX hret hro h
        · rw [if_neg hc] at h
          refine jw_iload_n hX dX7_rule_43 rfl 1 rfl ?_
          refine jw_iconst (v := (1 : Int32)) hX dX7_rule_44 (by decide) ?_
          refine jw_icmp_ne (tgt := 53) hX dX7_rule_45 (by decide) (fun hc => ?_) (fun hc => ?_)
          · rw [if_pos hc] at h
            exact sX7_rule_J53 hX hT hGX hret hro h
          · rw [if_neg hc] at h
            refine jw_iload hX dX7_rule_48 4 rfl ?_
            refine jw_if_lt (tgt := 67) hX dX7_rule_50 (by decide) (fun hc => ?_) (fun hc => ?_)
            · rw [if_pos hc] at h
              exact sX7_rule_J67 hX hT hGX hret hro h
            · rw [if_neg hc] at h
              exact sX7_rule_J53 hX hT hGX hret hro h
set_option maxRecDepth 100000 in
set_option maxHeartbeats 4000000 in
theorem kX7_rule {l : Launch} {D : va_G} {tys : List (ClassId × FieldType)} {a : Nat} {ad : Nat → Nat} {cI cZ cO cJ : ClassId} {w : MW} {v1 v2 v3 v4 : Int32} {r : Int32} {w1 : MW} (hT : tys = jTy cI cZ cO cJ) (h : fX7_rule w v1 v2 v3 v4 = some (r, w1)) : CC l jG0 D tys yX7_rule wsX7_rule rmX7_rule [.ref a, .int v1, .int v2, .int v3, .int v4] (mW a ad cI cZ w) (fun ov w2 => ov = some (.int r) ∧ w2 = (mW a ad cI cZ w1)) := by
  refine CC_of (cc := cX7_rule) (maxL := 6) (ret := (some .int)) (by decide) rfl (by decide) ?_
  intro X hD hL hT0 hGX hX rI rZ rV rA
  exact sX7_rule hX (hT0.trans hT) hGX (fun cells slots w9 pc lv v => rI cells slots w9 pc lv v rfl) (o := (r, w1)) (fun v9 w9 e9 => by cases e9; exact ⟨rfl, rfl⟩) h
/-! X7_isRule -/
abbrev rmX7_isRule : Room := { frames := 1, cells := 0, slots := 0, locals := 22 }
theorem hdX7_isRule : yX7_isRule.cls = RX7 ∧ yX7_isRule.cls ≠ "java/lang/invoke/MethodHandle" ∧ yX7_isRule.cls ≠ "java/lang/invoke/VarHandle" ∧ (parseMethodDescriptor yX7_isRule.desc).map (fun d => d.parameters.length) = some 1 := by decide +kernel
theorem inX7_isRule : ∀ w ∈ wsX70, w ∈ wsX7_isRule := fun _ h => List.mem_cons_of_mem _ (List.mem_append_right _ h)
theorem lkX7_isRule_215 : Cond.fieldLink RX7 215 "PostlintModel" (TX7 15).2.1 (TX7 15).2.2.1 ∈ wsX7_isRule := by decide +kernel
def fX7_isRule (w : MW) (v1 : Int32) : Option Int32 := bP (fX7_isIn v1 (0 : Int32) ((w.1 15) - (1 : Int32))) (fun r8 => chk (b01 r8) (some r8))
set_option maxRecDepth 100000 in
set_option maxHeartbeats 4000000 in
theorem sX7_isRule {X : JX} {a : Nat} {ad : Nat → Nat} {cI cZ cO cJ : ClassId} {w : MW} {post : Option Value → va_W → Prop} (hX : jOK X cX7_isRule 2 wsX7_isRule RX7 rmX7_isRule) (hT : jT X = jTy cI cZ cO cJ) (hGX : jG X jG0) (hret : jRZ X cX7_isRule rmX7_isRule post) {o : Int32} (hro : ∀ v9 : Int32, o = v9 → post (some (.int v9)) (mW a ad cI cZ w)) {v1 : Int32} (h : fX7_isRule w v1 = some o) : JW X 0 0 (mW a ad cI cZ w) 0 [(0, .ref a), (1, .int v1)] [] := by
  unfold fX7_isRule at h
  refine jw_iload_n hX dX7_isRule_0 rfl 1 rfl ?_
  refine jw_iconst (v := (0 : Int32)) hX dX7_isRule_1 (by decide) ?_
  refine jw_aload_n hX dX7_isRule_2 rfl 0 rfl ?_
  refine jw_mgetI hX hT inX7_isRule 15 (by decide) lkX7_isRule_215 rfl dX7_isRule_3 ?_
  refine jw_iconst (v := (1 : Int32)) hX dX7_isRule_6 (by decide) ?_
  refine jw_isub hX dX7_isRule_7 ?_
  obtain ⟨r8, hc8, h⟩ := bP_some h
  refine jw_cSi (As := [.int v1, .int (0 : Int32), .int ((w.1 15) - (1 : Int32))]) hX jG0_ok hGX 3 (kX7_isIn hT hc8) gX7_isRule_X7_isIn rfl hdX7_isIn ⟨by decide, by decide⟩ rfl (by decide) dX7_isRule_8 rfl rfl ⟨by decide, by decide⟩ ?_
  obtain ⟨hz11, h⟩ := chk_some h
  exact hret _ _ _ _ _ _ (b01_or hz11) (Nat.zero_le _) (Nat.zero_le _) dX7_isRule_11 (hro _ (Option.some.inj h).symm)
set_option maxRecDepth 100000 in
set_option maxHeartbeats 4000000 in
theorem kX7_isRule {l : Launch} {D : va_G} {tys : List (ClassId × FieldType)} {a : Nat} {ad : Nat → Nat} {cI cZ cO cJ : ClassId} {w : MW} {v1 : Int32} {r : Int32} (hT : tys = jTy cI cZ cO cJ) (h : fX7_isRule w v1 = some r) : CC l jG0 D tys yX7_isRule wsX7_isRule rmX7_isRule [.ref a, .int v1] (mW a ad cI cZ w) (fun ov w2 => ov = some (.int r) ∧ w2 = (mW a ad cI cZ w)) := by
  refine CC_of (cc := cX7_isRule) (maxL := 2) (ret := (some .boolean)) (by decide) rfl (by decide) ?_
  intro X hD hL hT0 hGX hX rI rZ rV rA
  exact sX7_isRule hX (hT0.trans hT) hGX (fun cells slots w9 pc lv v => rZ cells slots w9 pc lv v rfl) (o := r) (fun v9 e9 => by cases e9; exact ⟨rfl, rfl⟩) h
/-! X7_amountOf -/
abbrev rmX7_amountOf : Room := { frames := 0, cells := 0, slots := 0, locals := 0 }
theorem hdX7_amountOf : yX7_amountOf.cls = RX7 ∧ yX7_amountOf.cls ≠ "java/lang/invoke/MethodHandle" ∧ yX7_amountOf.cls ≠ "java/lang/invoke/VarHandle" ∧ (parseMethodDescriptor yX7_amountOf.desc).map (fun d => d.parameters.length) = some 1 := by decide +kernel
theorem inX7_amountOf : ∀ w ∈ wsX70, w ∈ wsX7_amountOf := fun _ h => List.mem_cons_of_mem _ (List.mem_append_right _ h)
theorem lkX7_amountOf_35 : Cond.fieldLink RX7 35 "PostlintModel" (TX7 11).2.1 (TX7 11).2.2.1 ∈ wsX7_amountOf := by decide +kernel
theorem lkX7_amountOf_38 : Cond.fieldLink RX7 38 "PostlintModel" (TX7 12).2.1 (TX7 12).2.2.1 ∈ wsX7_amountOf := by decide +kernel
theorem lkX7_amountOf_41 : Cond.fieldLink RX7 41 "PostlintModel" (TX7 13).2.1 (TX7 13).2.2.1 ∈ wsX7_amountOf := by decide +kernel
def fX7_amountOf (w : MW) (v1 : Int32) : Option Int32 := chk (inB v1 (mLen 11)) ((if (w.2 11 (v1).toNatClampNeg) = 0 then chk (inB v1 (mLen 12)) (chk (inB v1 (mLen 13)) (some ((w.2 12 (v1).toNatClampNeg) * (w.2 13 (v1).toNatClampNeg)))) else chk (inB v1 (mLen 12)) (chk (inB v1 (mLen 13)) (some ((-(w.2 12 (v1).toNatClampNeg)) * (w.2 13 (v1).toNatClampNeg))))))
set_option maxRecDepth 100000 in
set_option maxHeartbeats 4000000 in
theorem sX7_amountOf {X : JX} {a : Nat} {ad : Nat → Nat} {cI cZ cO cJ : ClassId} {w : MW} {post : Option Value → va_W → Prop} (hX : jOK X cX7_amountOf 2 wsX7_amountOf RX7 rmX7_amountOf) (hT : jT X = jTy cI cZ cO cJ) (hGX : jG X jG0) (hret : jRI X cX7_amountOf rmX7_amountOf post) {o : Int32} (hro : ∀ v9 : Int32, o = v9 → post (some (.int v9)) (mW a ad cI cZ w)) {v1 : Int32} (h : fX7_amountOf w v1 = some o) : JW X 0 0 (mW a ad cI cZ w) 0 [(0, .ref a), (1, .int v1)] [] := by
  unfold fX7_amountOf at h
  refine jw_aload_n hX dX7_amountOf_0 rfl 0 rfl ?_
  refine jw_mgetA hX hT inX7_amountOf 11 (by decide) lkX7_amountOf_35 rfl dX7_amountOf_1 ?_
  refine jw_iload_n hX dX7_amountOf_4 rfl 1 rfl ?_
  obtain ⟨hb5, h⟩ := chk_some h
  refine jw_mzald hX hT 8 11 rfl rfl hb5 dX7_amountOf_5 ?_
  refine jw_if_eq (tgt := 19) hX dX7_amountOf_6 (by decide) (fun hc => ?_) (fun hc => ?_)
  · rw [if_pos hc] at h
    refine jw_aload_n hX dX7_amountOf_19 rfl 0 rfl ?_
    refine jw_mgetA hX hT inX7_amountOf 12 (by decide) lkX7_amountOf_38 rfl dX7_amountOf_20 ?_
    refine jw_iload_n hX dX7_amountOf_23 rfl 1 rfl ?_
    obtain ⟨hb24, h⟩ := chk_some h
    refine jw_miald hX hT 9 12 rfl rfl hb24 dX7_amountOf_24 ?_
    refine jw_aload_n hX dX7_amountOf_25 rfl 0 rfl ?_
    refine jw_mgetA hX hT inX7_amountOf 13 (by decide) lkX7_amountOf_41 rfl dX7_amountOf_26 ?_
    refine jw_iload_n hX dX7_amountOf_29 rfl 1 rfl ?_
    obtain ⟨hb30, h⟩ := chk_some h
    refine jw_miald hX hT 10 13 rfl rfl hb30 dX7_amountOf_30 ?_
    refine jw_imul hX dX7_amountOf_31 ?_
    exact hret _ _ _ _ _ _ (Nat.zero_le _) (Nat.zero_le _) dX7_amountOf_32 (hro _ (Option.some.inj h).symm)
  · rw [if_neg hc] at h
    refine jw_aload_n hX dX7_amountOf_9 rfl 0 rfl ?_
    refine jw_mgetA hX hT inX7_amountOf 12 (by decide) lkX7_amountOf_38 rfl dX7_amountOf_10 ?_
    refine jw_iload_n hX dX7_amountOf_13 rfl 1 rfl ?_
    obtain ⟨hb14, h⟩ := chk_some h
    refine jw_miald hX hT 9 12 rfl rfl hb14 dX7_amountOf_14 ?_
    refine jw_ineg hX dX7_amountOf_15 ?_
    refine jw_goto (tgt := 25) hX dX7_amountOf_16 (by decide) ?_
    refine jw_aload_n hX dX7_amountOf_25 rfl 0 rfl ?_
    refine jw_mgetA hX hT inX7_amountOf 13 (by decide) lkX7_amountOf_41 rfl dX7_amountOf_26 ?_
    refine jw_iload_n hX dX7_amountOf_29 rfl 1 rfl ?_
    obtain ⟨hb30, h⟩ := chk_some h
    refine jw_miald hX hT 10 13 rfl rfl hb30 dX7_amountOf_30 ?_
    refine jw_imul hX dX7_amountOf_31 ?_
    exact hret _ _ _ _ _ _ (Nat.zero_le _) (Nat.zero_le _) dX7_amountOf_32 (hro _ (Option.some.inj h).symm)
set_option maxRecDepth 100000 in
set_option maxHeartbeats 4000000 in
theorem kX7_amountOf {l : Launch} {D : va_G} {tys : List (ClassId × FieldType)} {a : Nat} {ad : Nat → Nat} {cI cZ cO cJ : ClassId} {w : MW} {v1 : Int32} {r : Int32} (hT : tys = jTy cI cZ cO cJ) (h : fX7_amountOf w v1 = some r) : CC l jG0 D tys yX7_amountOf wsX7_amountOf rmX7_amountOf [.ref a, .int v1] (mW a ad cI cZ w) (fun ov w2 => ov = some (.int r) ∧ w2 = (mW a ad cI cZ w)) := by
  refine CC_of (cc := cX7_amountOf) (maxL := 2) (ret := (some .int)) (by decide) rfl (by decide) ?_
  intro X hD hL hT0 hGX hX rI rZ rV rA
  exact sX7_amountOf hX (hT0.trans hT) hGX (fun cells slots w9 pc lv v => rI cells slots w9 pc lv v rfl) (o := r) (fun v9 e9 => by cases e9; exact ⟨rfl, rfl⟩) h
/-! X7_got -/
abbrev rmX7_got : Room := { frames := 1, cells := 0, slots := 0, locals := 21 }
theorem hdX7_got : yX7_got.cls = RX7 ∧ yX7_got.cls ≠ "java/lang/invoke/MethodHandle" ∧ yX7_got.cls ≠ "java/lang/invoke/VarHandle" ∧ (parseMethodDescriptor yX7_got.desc).map (fun d => d.parameters.length) = some 2 := by decide +kernel
theorem inX7_got : ∀ w ∈ wsX70, w ∈ wsX7_got := fun _ h => List.mem_cons_of_mem _ (List.mem_append_right _ h)
theorem lkX7_got_29 : Cond.fieldLink RX7 29 "PostlintModel" (TX7 9).2.1 (TX7 9).2.2.1 ∈ wsX7_got := by decide +kernel
theorem lkX7_got_32 : Cond.fieldLink RX7 32 "PostlintModel" (TX7 10).2.1 (TX7 10).2.2.1 ∈ wsX7_got := by decide +kernel
def fX7_got_L8 (n : Nat) : Nat → MW → Int32 → Int32 → Int32 → Int32 → Option (Int32)
  | 0, _, _, _, _, _ => none
  | k + 1, w, v1, v2, v3, v4 => chk (inB v1 (mLen 9)) ((if (((16 : Int32) * v1) + (w.2 9 (v1).toNatClampNeg)) ≤ v4 then some (v3) else chk (inB v4 (mLen 10)) ((if ¬ (w.2 10 (v4).toNatClampNeg) = v2 then bnd ((v3 + (0 : Int32))) (fun y47 => fX7_got_L8 n k w v1 v2 y47 ((v4 + (1 : Int32)))) else bP (fX7_amountOf w v4) (fun r39 => bnd ((v3 + r39)) (fun y47 => fX7_got_L8 n k w v1 v2 y47 ((v4 + (1 : Int32)))))))))
def fX7_got (n : Nat) (w : MW) (v1 v2 : Int32) : Option Int32 := bnd (((16 : Int32) * v1)) (fun y6 => bL1 (fX7_got_L8 n n w v1 v2 (0 : Int32) y6) (fun x3_8 => some x3_8))
set_option maxRecDepth 100000 in
set_option maxHeartbeats 4000000 in
theorem sX7_got_L8 {X : JX} {a : Nat} {ad : Nat → Nat} {cI cZ cO cJ : ClassId} {n : Nat} {w : MW} {post : Option Value → va_W → Prop} (hX : jOK X cX7_got 5 wsX7_got RX7 rmX7_got) (hT : jT X = jTy cI cZ cO cJ) (hGX : jG X jG0) (hret : jRI X cX7_got rmX7_got post) {o : (Int32)} (hex : ∀ (x3 : Int32), o = x3 → JW X 0 0 (mW a ad cI cZ w) 54 [(3, .int x3)] [])  : ∀ (k : Nat) (v1 v2 v3 v4 : Int32), fX7_got_L8 n k w v1 v2 v3 v4 = some o → JW X 0 0 (mW a ad cI cZ w) 8 [(0, .ref a), (1, .int v1), (2, .int v2), (3, .int v3), (4, .int v4)] [] := by
  intro k
  induction k with
  | zero => intro v1 v2 v3 v4 h; cases h
  | succ k hrec0 =>
    intro v1 v2 v3 v4 h
    have hrec := fun (_ : MW) => hrec0
    unfold fX7_got_L8 at h
    refine jw_iload hX dX7_got_8 4 rfl ?_
    refine jw_bipush (v := (16 : Int32)) hX dX7_got_10 (by decide) ?_
    refine jw_iload_n hX dX7_got_12 rfl 1 rfl ?_
    refine jw_imul hX dX7_got_13 ?_
    refine jw_aload_n hX dX7_got_14 rfl 0 rfl ?_
    refine jw_mgetA hX hT inX7_got 9 (by decide) lkX7_got_29 rfl dX7_got_15 ?_
    refine jw_iload_n hX dX7_got_18 rfl 1 rfl ?_
    obtain ⟨hb19, h⟩ := chk_some h
    refine jw_miald hX hT 6 9 rfl rfl hb19 dX7_got_19 ?_
    refine jw_iadd hX dX7_got_20 ?_
    refine jw_icmp_ge (tgt := 54) hX dX7_got_21 (by decide) (fun hc => ?_) (fun hc => ?_)
    · rw [if_pos hc] at h
      refine jw_sub [3] [(3, .int v3)] rfl ?_
      exact hex _ (Option.some.inj h).symm
    · rw [if_neg hc] at h
      refine jw_iload_n hX dX7_got_24 rfl 3 rfl ?_
      refine jw_aload_n hX dX7_got_25 rfl 0 rfl ?_
      refine jw_mgetA hX hT inX7_got 10 (by decide) lkX7_got_32 rfl dX7_got_26 ?_
      refine jw_iload hX dX7_got_29 4 rfl ?_
      obtain ⟨hb31, h⟩ := chk_some h
      refine jw_miald hX hT 7 10 rfl rfl hb31 dX7_got_31 ?_
      refine jw_iload_n hX dX7_got_32 rfl 2 rfl ?_
      refine jw_icmp_ne (tgt := 45) hX dX7_got_33 (by decide) (fun hc => ?_) (fun hc => ?_)
      · rw [if_pos hc] at h
        refine jw_iconst (v := (0 : Int32)) hX dX7_got_45 (by decide) ?_
        refine jw_iadd hX dX7_got_46 ?_
        refine jw_topi (fun y47 e47 => ?_)
        replace h := bnd_some h y47 e47
        clear e47
        refine jw_istore_n hX [(3, .int y47), (0, .ref a), (1, .int v1), (2, .int v2), (4, .int v4)] dX7_got_47 rfl (by decide) rfl ?_
        refine jw_iinc (v := (v4 + (1 : Int32))) hX [(4, .int (v4 + (1 : Int32))), (3, .int y47), (0, .ref a), (1, .int v1), (2, .int v2)] dX7_got_48 4 rfl (by first | rfl | (congr 1; decide)) (by decide) rfl ?_
        refine jw_goto (tgt := 8) hX dX7_got_51 (by decide) ?_
        refine jw_sub [2, 3, 4, 1, 0] [(0, .ref a), (1, .int v1), (2, .int v2), (3, .int y47), (4, .int (v4 + (1 : Int32)))] rfl ?_
        exact hrec w _ _ _ _ h
      · rw [if_neg hc] at h
        refine jw_aload_n hX dX7_got_36 rfl 0 rfl ?_
        refine jw_iload hX dX7_got_37 4 rfl ?_
        obtain ⟨r39, hc39, h⟩ := bP_some h
        refine jw_cVi (As := [.int v4]) hX jG0_ok hGX 1 (kX7_amountOf hT hc39) gX7_got_X7_amountOf rfl hdX7_amountOf ⟨by decide, by decide⟩ 0 7 rfl rfl rfl (by decide) dX7_got_39 rfl rfl ⟨by decide, by decide⟩ ?_
        refine jw_goto (tgt := 46) hX dX7_got_42 (by decide) ?_
        refine jw_iadd hX dX7_got_46 ?_
        refine jw_topi (fun y47 e47 => ?_)
        replace h := bnd_some h y47 e47
        clear e47
        refine jw_istore_n hX [(3, .int y47), (0, .ref a), (1, .int v1), (2, .int v2), (4, .int v4)] dX7_got_47 rfl (by decide) rfl ?_
        refine jw_iinc (v := (v4 + (1 : Int32))) hX [(4, .int (v4 + (1 : Int32))), (3, .int y47), (0, .ref a), (1, .int v1), (2, .int v2)] dX7_got_48 4 rfl (by first | rfl | (congr 1; decide)) (by decide) rfl ?_
        refine jw_goto (tgt := 8) hX dX7_got_51 (by decide) ?_
        refine jw_sub [2, 3, 4, 1, 0] [(0, .ref a), (1, .int v1), (2, .int v2), (3, .int y47), (4, .int (v4 + (1 : Int32)))] rfl ?_
        exact hrec w _ _ _ _ h
set_option maxRecDepth 100000 in
set_option maxHeartbeats 4000000 in
theorem sX7_got {X : JX} {a : Nat} {ad : Nat → Nat} {cI cZ cO cJ : ClassId} {n : Nat} {w : MW} {post : Option Value → va_W → Prop} (hX : jOK X cX7_got 5 wsX7_got RX7 rmX7_got) (hT : jT X = jTy cI cZ cO cJ) (hGX : jG X jG0) (hret : jRI X cX7_got rmX7_got post) {o : Int32} (hro : ∀ v9 : Int32, o = v9 → post (some (.int v9)) (mW a ad cI cZ w)) {v1 v2 : Int32} (h : fX7_got n w v1 v2 = some o) : JW X 0 0 (mW a ad cI cZ w) 0 [(0, .ref a), (1, .int v1), (2, .int v2)] [] := by
  unfold fX7_got at h
  refine jw_iconst (v := (0 : Int32)) hX dX7_got_0 (by decide) ?_
  refine jw_istore_n hX [(3, .int (0 : Int32)), (0, .ref a), (1, .int v1), (2, .int v2)] dX7_got_1 rfl (by decide) rfl ?_
  refine jw_bipush (v := (16 : Int32)) hX dX7_got_2 (by decide) ?_
  refine jw_iload_n hX dX7_got_4 rfl 2 rfl ?_
  refine jw_imul hX dX7_got_5 ?_
  refine jw_topi (fun y6 e6 => ?_)
  replace h := bnd_some h y6 e6
  clear e6
  refine jw_istore hX [(4, .int y6), (3, .int (0 : Int32)), (0, .ref a), (1, .int v1), (2, .int v2)] dX7_got_6 (by decide) rfl ?_
  refine jw_sub [2, 3, 4, 1, 0] [(0, .ref a), (1, .int v1), (2, .int v2), (3, .int (0 : Int32)), (4, .int y6)] rfl ?_
  obtain ⟨x3_8, hl8, h⟩ := bL1_some h
  refine sX7_got_L8 hX hT hGX hret (o := x3_8) (fun q0 e9 => ?_) n _ _ _ _ hl8
  cases e9
  refine jw_iload_n hX dX7_got_54 rfl 0 rfl ?_
  exact hret _ _ _ _ _ _ (Nat.zero_le _) (Nat.zero_le _) dX7_got_55 (hro _ (Option.some.inj h).symm)
set_option maxRecDepth 100000 in
set_option maxHeartbeats 4000000 in
theorem kX7_got {l : Launch} {D : va_G} {tys : List (ClassId × FieldType)} {a : Nat} {ad : Nat → Nat} {cI cZ cO cJ : ClassId} {n : Nat} {w : MW} {v1 v2 : Int32} {r : Int32} (hT : tys = jTy cI cZ cO cJ) (h : fX7_got n w v1 v2 = some r) : CC l jG0 D tys yX7_got wsX7_got rmX7_got [.ref a, .int v1, .int v2] (mW a ad cI cZ w) (fun ov w2 => ov = some (.int r) ∧ w2 = (mW a ad cI cZ w)) := by
  refine CC_of (cc := cX7_got) (maxL := 5) (ret := (some .int)) (by decide) rfl (by decide) ?_
  intro X hD hL hT0 hGX hX rI rZ rV rA
  exact sX7_got hX (hT0.trans hT) hGX (fun cells slots w9 pc lv v => rI cells slots w9 pc lv v rfl) (o := r) (fun v9 e9 => by cases e9; exact ⟨rfl, rfl⟩) h
/-! X7_has -/
abbrev rmX7_has : Room := { frames := 0, cells := 0, slots := 0, locals := 0 }
theorem hdX7_has : yX7_has.cls = RX7 ∧ yX7_has.cls ≠ "java/lang/invoke/MethodHandle" ∧ yX7_has.cls ≠ "java/lang/invoke/VarHandle" ∧ (parseMethodDescriptor yX7_has.desc).map (fun d => d.parameters.length) = some 2 := by decide +kernel
theorem inX7_has : ∀ w ∈ wsX70, w ∈ wsX7_has := fun _ h => List.mem_cons_of_mem _ (List.mem_append_right _ h)
theorem lkX7_has_29 : Cond.fieldLink RX7 29 "PostlintModel" (TX7 9).2.1 (TX7 9).2.2.1 ∈ wsX7_has := by decide +kernel
theorem lkX7_has_32 : Cond.fieldLink RX7 32 "PostlintModel" (TX7 10).2.1 (TX7 10).2.2.1 ∈ wsX7_has := by decide +kernel
def fX7_has_L8 (n : Nat) : Nat → MW → Int32 → Int32 → Int32 → Int32 → Option (Int32)
  | 0, _, _, _, _, _ => none
  | k + 1, w, v1, v2, v3, v4 => chk (inB v1 (mLen 9)) ((if (((16 : Int32) * v1) + (w.2 9 (v1).toNatClampNeg)) ≤ v4 then some (v3) else (if ¬ v3 = 0 then fX7_has_L8 n k w v1 v2 ((1 : Int32)) ((v4 + (1 : Int32))) else chk (inB v4 (mLen 10)) ((if ¬ (w.2 10 (v4).toNatClampNeg) = v2 then fX7_has_L8 n k w v1 v2 ((0 : Int32)) ((v4 + (1 : Int32))) else fX7_has_L8 n k w v1 v2 ((1 : Int32)) ((v4 + (1 : Int32))))))))
def fX7_has (n : Nat) (w : MW) (v1 v2 : Int32) : Option Int32 := bnd (((16 : Int32) * v1)) (fun y6 => bL1 (fX7_has_L8 n n w v1 v2 (0 : Int32) y6) (fun x3_8 => chk (b01 x3_8) (some x3_8)))
set_option maxRecDepth 100000 in
set_option maxHeartbeats 4000000 in
theorem sX7_has_L8 {X : JX} {a : Nat} {ad : Nat → Nat} {cI cZ cO cJ : ClassId} {n : Nat} {w : MW} {post : Option Value → va_W → Prop} (hX : jOK X cX7_has 5 wsX7_has RX7 rmX7_has) (hT : jT X = jTy cI cZ cO cJ) (hGX : jG X jG0) (hret : jRZ X cX7_has rmX7_has post) {o : (Int32)} (hex : ∀ (x3 : Int32), o = x3 → JW X 0 0 (mW a ad cI cZ w) 51 [(3, .int x3)] [])  : ∀ (k : Nat) (v1 v2 v3 v4 : Int32), fX7_has_L8 n k w v1 v2 v3 v4 = some o → JW X 0 0 (mW a ad cI cZ w) 8 [(0, .ref a), (1, .int v1), (2, .int v2), (3, .int v3), (4, .int v4)] [] := by
  intro k
  induction k with
  | zero => intro v1 v2 v3 v4 h; cases h
  | succ k hrec0 =>
    intro v1 v2 v3 v4 h
    have hrec := fun (_ : MW) => hrec0
    unfold fX7_has_L8 at h
    refine jw_iload hX dX7_has_8 4 rfl ?_
    refine jw_bipush (v := (16 : Int32)) hX dX7_has_10 (by decide) ?_
    refine jw_iload_n hX dX7_has_12 rfl 1 rfl ?_
    refine jw_imul hX dX7_has_13 ?_
    refine jw_aload_n hX dX7_has_14 rfl 0 rfl ?_
    refine jw_mgetA hX hT inX7_has 9 (by decide) lkX7_has_29 rfl dX7_has_15 ?_
    refine jw_iload_n hX dX7_has_18 rfl 1 rfl ?_
    obtain ⟨hb19, h⟩ := chk_some h
    refine jw_miald hX hT 6 9 rfl rfl hb19 dX7_has_19 ?_
    refine jw_iadd hX dX7_has_20 ?_
    refine jw_icmp_ge (tgt := 51) hX dX7_has_21 (by decide) (fun hc => ?_) (fun hc => ?_)
    · rw [if_pos hc] at h
      refine jw_sub [3] [(3, .int v3)] rfl ?_
      exact hex _ (Option.some.inj h).symm
    · rw [if_neg hc] at h
      refine jw_iload_n hX dX7_has_24 rfl 3 rfl ?_
      refine jw_if_ne (tgt := 39) hX dX7_has_25 (by decide) (fun hc => ?_) (fun hc => ?_)
      · rw [if_pos hc] at h
        refine jw_iconst (v := (1 : Int32)) hX dX7_has_39 (by decide) ?_
        refine jw_goto (tgt := 44) hX dX7_has_40 (by decide) ?_
        refine jw_istore_n hX [(3, .int (1 : Int32)), (0, .ref a), (1, .int v1), (2, .int v2), (4, .int v4)] dX7_has_44 rfl (by decide) rfl ?_
        refine jw_iinc (v := (v4 + (1 : Int32))) hX [(4, .int (v4 + (1 : Int32))), (3, .int (1 : Int32)), (0, .ref a), (1, .int v1), (2, .int v2)] dX7_has_45 4 rfl (by first | rfl | (congr 1; decide)) (by decide) rfl ?_
        refine jw_goto (tgt := 8) hX dX7_has_48 (by decide) ?_
        refine jw_sub [2, 3, 4, 1, 0] [(0, .ref a), (1, .int v1), (2, .int v2), (3, .int (1 : Int32)), (4, .int (v4 + (1 : Int32)))] rfl ?_
        exact hrec w _ _ _ _ h
      · rw [if_neg hc] at h
        refine jw_aload_n hX dX7_has_28 rfl 0 rfl ?_
        refine jw_mgetA hX hT inX7_has 10 (by decide) lkX7_has_32 rfl dX7_has_29 ?_
        refine jw_iload hX dX7_has_32 4 rfl ?_
        obtain ⟨hb34, h⟩ := chk_some h
        refine jw_miald hX hT 7 10 rfl rfl hb34 dX7_has_34 ?_
        refine jw_iload_n hX dX7_has_35 rfl 2 rfl ?_
        refine jw_icmp_ne (tgt := 43) hX dX7_has_36 (by decide) (fun hc => ?_) (fun hc => ?_)
        · rw [if_pos hc] at h
          refine jw_iconst (v := (0 : Int32)) hX dX7_has_43 (by decide) ?_
          refine jw_istore_n hX [(3, .int (0 : Int32)), (0, .ref a), (1, .int v1), (2, .int v2), (4, .int v4)] dX7_has_44 rfl (by decide) rfl ?_
          refine jw_iinc (v := (v4 + (1 : Int32))) hX [(4, .int (v4 + (1 : Int32))), (3, .int (0 : Int32)), (0, .ref a), (1, .int v1), (2, .int v2)] dX7_has_45 4 rfl (by first | rfl | (congr 1; decide)) (by decide) rfl ?_
          refine jw_goto (tgt := 8) hX dX7_has_48 (by decide) ?_
          refine jw_sub [2, 3, 4, 1, 0] [(0, .ref a), (1, .int v1), (2, .int v2), (3, .int (0 : Int32)), (4, .int (v4 + (1 : Int32)))] rfl ?_
          exact hrec w _ _ _ _ h
        · rw [if_neg hc] at h
          refine jw_iconst (v := (1 : Int32)) hX dX7_has_39 (by decide) ?_
          refine jw_goto (tgt := 44) hX dX7_has_40 (by decide) ?_
          refine jw_istore_n hX [(3, .int (1 : Int32)), (0, .ref a), (1, .int v1), (2, .int v2), (4, .int v4)] dX7_has_44 rfl (by decide) rfl ?_
          refine jw_iinc (v := (v4 + (1 : Int32))) hX [(4, .int (v4 + (1 : Int32))), (3, .int (1 : Int32)), (0, .ref a), (1, .int v1), (2, .int v2)] dX7_has_45 4 rfl (by first | rfl | (congr 1; decide)) (by decide) rfl ?_
          refine jw_goto (tgt := 8) hX dX7_has_48 (by decide) ?_
          refine jw_sub [2, 3, 4, 1, 0] [(0, .ref a), (1, .int v1), (2, .int v2), (3, .int (1 : Int32)), (4, .int (v4 + (1 : Int32)))] rfl ?_
          exact hrec w _ _ _ _ h
set_option maxRecDepth 100000 in
set_option maxHeartbeats 4000000 in
theorem sX7_has {X : JX} {a : Nat} {ad : Nat → Nat} {cI cZ cO cJ : ClassId} {n : Nat} {w : MW} {post : Option Value → va_W → Prop} (hX : jOK X cX7_has 5 wsX7_has RX7 rmX7_has) (hT : jT X = jTy cI cZ cO cJ) (hGX : jG X jG0) (hret : jRZ X cX7_has rmX7_has post) {o : Int32} (hro : ∀ v9 : Int32, o = v9 → post (some (.int v9)) (mW a ad cI cZ w)) {v1 v2 : Int32} (h : fX7_has n w v1 v2 = some o) : JW X 0 0 (mW a ad cI cZ w) 0 [(0, .ref a), (1, .int v1), (2, .int v2)] [] := by
  unfold fX7_has at h
  refine jw_iconst (v := (0 : Int32)) hX dX7_has_0 (by decide) ?_
  refine jw_istore_n hX [(3, .int (0 : Int32)), (0, .ref a), (1, .int v1), (2, .int v2)] dX7_has_1 rfl (by decide) rfl ?_
  refine jw_bipush (v := (16 : Int32)) hX dX7_has_2 (by decide) ?_
  refine jw_iload_n hX dX7_has_4 rfl 2 rfl ?_
  refine jw_imul hX dX7_has_5 ?_
  refine jw_topi (fun y6 e6 => ?_)
  replace h := bnd_some h y6 e6
  clear e6
  refine jw_istore hX [(4, .int y6), (3, .int (0 : Int32)), (0, .ref a), (1, .int v1), (2, .int v2)] dX7_has_6 (by decide) rfl ?_
  refine jw_sub [2, 3, 4, 1, 0] [(0, .ref a), (1, .int v1), (2, .int v2), (3, .int (0 : Int32)), (4, .int y6)] rfl ?_
  obtain ⟨x3_8, hl8, h⟩ := bL1_some h
  refine sX7_has_L8 hX hT hGX hret (o := x3_8) (fun q0 e9 => ?_) n _ _ _ _ hl8
  cases e9
  refine jw_iload_n hX dX7_has_51 rfl 0 rfl ?_
  obtain ⟨hz52, h⟩ := chk_some h
  exact hret _ _ _ _ _ _ (b01_or hz52) (Nat.zero_le _) (Nat.zero_le _) dX7_has_52 (hro _ (Option.some.inj h).symm)
set_option maxRecDepth 100000 in
set_option maxHeartbeats 4000000 in
theorem kX7_has {l : Launch} {D : va_G} {tys : List (ClassId × FieldType)} {a : Nat} {ad : Nat → Nat} {cI cZ cO cJ : ClassId} {n : Nat} {w : MW} {v1 v2 : Int32} {r : Int32} (hT : tys = jTy cI cZ cO cJ) (h : fX7_has n w v1 v2 = some r) : CC l jG0 D tys yX7_has wsX7_has rmX7_has [.ref a, .int v1, .int v2] (mW a ad cI cZ w) (fun ov w2 => ov = some (.int r) ∧ w2 = (mW a ad cI cZ w)) := by
  refine CC_of (cc := cX7_has) (maxL := 5) (ret := (some .boolean)) (by decide) rfl (by decide) ?_
  intro X hD hL hT0 hGX hX rI rZ rV rA
  exact sX7_has hX (hT0.trans hT) hGX (fun cells slots w9 pc lv v => rZ cells slots w9 pc lv v rfl) (o := r) (fun v9 e9 => by cases e9; exact ⟨rfl, rfl⟩) h
/-! X7_upTo -/
abbrev rmX7_upTo : Room := { frames := 2, cells := 0, slots := 0, locals := 45 }
theorem hdX7_upTo : yX7_upTo.cls = RX7 ∧ yX7_upTo.cls ≠ "java/lang/invoke/MethodHandle" ∧ yX7_upTo.cls ≠ "java/lang/invoke/VarHandle" ∧ (parseMethodDescriptor yX7_upTo.desc).map (fun d => d.parameters.length) = some 2 := by decide +kernel
def fX7_upTo_L5 (n : Nat) : Nat → MW → Int32 → Int32 → Int32 → Int32 → Option (Int32)
  | 0, _, _, _, _, _ => none
  | k + 1, w, v1, v2, v3, v4 => (if v1 < v4 then some (v3) else bP (fX7_got n w v4 v2) (fun r16 => bnd ((v3 + r16)) (fun y20 => fX7_upTo_L5 n k w v1 v2 y20 ((v4 + (1 : Int32))))))
def fX7_upTo (n : Nat) (w : MW) (v1 v2 : Int32) : Option Int32 := bL1 (fX7_upTo_L5 n n w v1 v2 (0 : Int32) (0 : Int32)) (fun x3_5 => some x3_5)
set_option maxRecDepth 100000 in
set_option maxHeartbeats 4000000 in
theorem sX7_upTo_L5 {X : JX} {a : Nat} {ad : Nat → Nat} {cI cZ cO cJ : ClassId} {n : Nat} {w : MW} {post : Option Value → va_W → Prop} (hX : jOK X cX7_upTo 5 wsX7_upTo RX7 rmX7_upTo) (hT : jT X = jTy cI cZ cO cJ) (hGX : jG X jG0) (hret : jRI X cX7_upTo rmX7_upTo post) {o : (Int32)} (hex : ∀ (x3 : Int32), o = x3 → JW X 0 0 (mW a ad cI cZ w) 27 [(3, .int x3)] [])  : ∀ (k : Nat) (v1 v2 v3 v4 : Int32), fX7_upTo_L5 n k w v1 v2 v3 v4 = some o → JW X 0 0 (mW a ad cI cZ w) 5 [(0, .ref a), (1, .int v1), (2, .int v2), (3, .int v3), (4, .int v4)] [] := by
  intro k
  induction k with
  | zero => intro v1 v2 v3 v4 h; cases h
  | succ k hrec0 =>
    intro v1 v2 v3 v4 h
    have hrec := fun (_ : MW) => hrec0
    unfold fX7_upTo_L5 at h
    refine jw_iload hX dX7_upTo_5 4 rfl ?_
    refine jw_iload_n hX dX7_upTo_7 rfl 1 rfl ?_
    refine jw_icmp_gt (tgt := 27) hX dX7_upTo_8 (by decide) (fun hc => ?_) (fun hc => ?_)
    · rw [if_pos hc] at h
      refine jw_sub [3] [(3, .int v3)] rfl ?_
      exact hex _ (Option.some.inj h).symm
    · rw [if_neg hc] at h
      refine jw_iload_n hX dX7_upTo_11 rfl 3 rfl ?_
      refine jw_aload_n hX dX7_upTo_12 rfl 0 rfl ?_
      refine jw_iload hX dX7_upTo_13 4 rfl ?_
      refine jw_iload_n hX dX7_upTo_15 rfl 2 rfl ?_
      obtain ⟨r16, hc16, h⟩ := bP_some h
      refine jw_cVi (As := [.int v4, .int v2]) hX jG0_ok hGX 2 (kX7_got hT hc16) gX7_upTo_X7_got rfl hdX7_got ⟨by decide, by decide⟩ 0 7 rfl rfl rfl (by decide) dX7_upTo_16 rfl rfl ⟨by decide, by decide⟩ ?_
      refine jw_iadd hX dX7_upTo_19 ?_
      refine jw_topi (fun y20 e20 => ?_)
      replace h := bnd_some h y20 e20
      clear e20
      refine jw_istore_n hX [(3, .int y20), (0, .ref a), (1, .int v1), (2, .int v2), (4, .int v4)] dX7_upTo_20 rfl (by decide) rfl ?_
      refine jw_iinc (v := (v4 + (1 : Int32))) hX [(4, .int (v4 + (1 : Int32))), (3, .int y20), (0, .ref a), (1, .int v1), (2, .int v2)] dX7_upTo_21 4 rfl (by first | rfl | (congr 1; decide)) (by decide) rfl ?_
      refine jw_goto (tgt := 5) hX dX7_upTo_24 (by decide) ?_
      refine jw_sub [2, 3, 4, 1, 0] [(0, .ref a), (1, .int v1), (2, .int v2), (3, .int y20), (4, .int (v4 + (1 : Int32)))] rfl ?_
      exact hrec w _ _ _ _ h
set_option maxRecDepth 100000 in
set_option maxHeartbeats 4000000 in
theorem sX7_upTo {X : JX} {a : Nat} {ad : Nat → Nat} {cI cZ cO cJ : ClassId} {n : Nat} {w : MW} {post : Option Value → va_W → Prop} (hX : jOK X cX7_upTo 5 wsX7_upTo RX7 rmX7_upTo) (hT : jT X = jTy cI cZ cO cJ) (hGX : jG X jG0) (hret : jRI X cX7_upTo rmX7_upTo post) {o : Int32} (hro : ∀ v9 : Int32, o = v9 → post (some (.int v9)) (mW a ad cI cZ w)) {v1 v2 : Int32} (h : fX7_upTo n w v1 v2 = some o) : JW X 0 0 (mW a ad cI cZ w) 0 [(0, .ref a), (1, .int v1), (2, .int v2)] [] := by
  unfold fX7_upTo at h
  refine jw_iconst (v := (0 : Int32)) hX dX7_upTo_0 (by decide) ?_
  refine jw_istore_n hX [(3, .int (0 : Int32)), (0, .ref a), (1, .int v1), (2, .int v2)] dX7_upTo_1 rfl (by decide) rfl ?_
  refine jw_iconst (v := (0 : Int32)) hX dX7_upTo_2 (by decide) ?_
  refine jw_istore hX [(4, .int (0 : Int32)), (3, .int (0 : Int32)), (0, .ref a), (1, .int v1), (2, .int v2)] dX7_upTo_3 (by decide) rfl ?_
  refine jw_sub [2, 3, 4, 1, 0] [(0, .ref a), (1, .int v1), (2, .int v2), (3, .int (0 : Int32)), (4, .int (0 : Int32))] rfl ?_
  obtain ⟨x3_5, hl5, h⟩ := bL1_some h
  refine sX7_upTo_L5 hX hT hGX hret (o := x3_5) (fun q0 e9 => ?_) n _ _ _ _ hl5
  cases e9
  refine jw_iload_n hX dX7_upTo_27 rfl 0 rfl ?_
  exact hret _ _ _ _ _ _ (Nat.zero_le _) (Nat.zero_le _) dX7_upTo_28 (hro _ (Option.some.inj h).symm)
set_option maxRecDepth 100000 in
set_option maxHeartbeats 4000000 in
theorem kX7_upTo {l : Launch} {D : va_G} {tys : List (ClassId × FieldType)} {a : Nat} {ad : Nat → Nat} {cI cZ cO cJ : ClassId} {n : Nat} {w : MW} {v1 v2 : Int32} {r : Int32} (hT : tys = jTy cI cZ cO cJ) (h : fX7_upTo n w v1 v2 = some r) : CC l jG0 D tys yX7_upTo wsX7_upTo rmX7_upTo [.ref a, .int v1, .int v2] (mW a ad cI cZ w) (fun ov w2 => ov = some (.int r) ∧ w2 = (mW a ad cI cZ w)) := by
  refine CC_of (cc := cX7_upTo) (maxL := 5) (ret := (some .int)) (by decide) rfl (by decide) ?_
  intro X hD hL hT0 hGX hX rI rZ rV rA
  exact sX7_upTo hX (hT0.trans hT) hGX (fun cells slots w9 pc lv v => rI cells slots w9 pc lv v rfl) (o := r) (fun v9 e9 => by cases e9; exact ⟨rfl, rfl⟩) h
/-! X7_isDoubted -/
abbrev rmX7_isDoubted : Room := { frames := 3, cells := 0, slots := 0, locals := 69 }
theorem hdX7_isDoubted : yX7_isDoubted.cls = RX7 ∧ yX7_isDoubted.cls ≠ "java/lang/invoke/MethodHandle" ∧ yX7_isDoubted.cls ≠ "java/lang/invoke/VarHandle" ∧ (parseMethodDescriptor yX7_isDoubted.desc).map (fun d => d.parameters.length) = some 2 := by decide +kernel
theorem inX7_isDoubted : ∀ w ∈ wsX70, w ∈ wsX7_isDoubted := fun _ h => List.mem_cons_of_mem _ (List.mem_append_right _ h)
theorem lkX7_isDoubted_13 : Cond.fieldLink RX7 13 "PostlintModel" (TX7 4).2.1 (TX7 4).2.2.1 ∈ wsX7_isDoubted := by decide +kernel
theorem lkX7_isDoubted_47 : Cond.fieldLink RX7 47 "PostlintModel" (TX7 16).2.1 (TX7 16).2.2.1 ∈ wsX7_isDoubted := by decide +kernel
theorem lkX7_isDoubted_50 : Cond.fieldLink RX7 50 "PostlintModel" (TX7 17).2.1 (TX7 17).2.2.1 ∈ wsX7_isDoubted := by decide +kernel
theorem lkX7_isDoubted_53 : Cond.fieldLink RX7 53 "PostlintModel" (TX7 18).2.1 (TX7 18).2.2.1 ∈ wsX7_isDoubted := by decide +kernel
theorem lkX7_isDoubted_56 : Cond.fieldLink RX7 56 "PostlintModel" (TX7 19).2.1 (TX7 19).2.2.1 ∈ wsX7_isDoubted := by decide +kernel
theorem lkX7_isDoubted_59 : Cond.fieldLink RX7 59 "PostlintModel" (TX7 20).2.1 (TX7 20).2.2.1 ∈ wsX7_isDoubted := by decide +kernel
def fX7_isDoubted_L156 (n : Nat) : Nat → MW → Int32 → Int32 → Int32 → Option (Int32)
  | 0, _, _, _, _ => none
  | k + 1, w, v1, v3, v4 => (if (8 : Int32) ≤ v4 then some (v3) else bP (fX7_got n w v1 v4) (fun r168 => bnd ((v3 + r168)) (fun y172 => fX7_isDoubted_L156 n k w v1 y172 ((v4 + (1 : Int32))))))
def fX7_isDoubted (n : Nat) (w : MW) (v1 v2 : Int32) : Option Int32 := chk (inB v2 (mLen 20)) ((if (w.2 20 (v2).toNatClampNeg) = 0 then chk (inB v2 (mLen 16)) ((if ¬ (w.2 16 (v2).toNatClampNeg) = (3 : Int32) then chk (inB v1 (mLen 4)) ((if (w.2 4 (v1).toNatClampNeg) = 0 then chk (inB v2 (mLen 16)) ((if ¬ (w.2 16 (v2).toNatClampNeg) = (2 : Int32) then chk (inB v2 (mLen 16)) ((if ¬ (w.2 16 (v2).toNatClampNeg) = (1 : Int32) then bL1 (fX7_isDoubted_L156 n n w v1 (0 : Int32) (0 : Int32)) (fun x3_156 => (if x3_156 = 0 then chk (b01 (0 : Int32)) (some (0 : Int32)) else chk (b01 (1 : Int32)) (some (1 : Int32)))) else chk (inB v2 (mLen 17)) (bP (fX7_got n w v1 (w.2 17 (v2).toNatClampNeg)) (fun r120 => chk (inB v2 (mLen 19)) ((if (w.2 19 (v2).toNatClampNeg) < r120 then chk (b01 (1 : Int32)) (some (1 : Int32)) else chk (inB v2 (mLen 19)) ((if (-(w.2 19 (v2).toNatClampNeg)) ≤ r120 then chk (b01 (0 : Int32)) (some (0 : Int32)) else chk (b01 (1 : Int32)) (some (1 : Int32)))))))))) else chk (inB v2 (mLen 17)) (bP (fX7_has n w v1 (w.2 17 (v2).toNatClampNeg)) (fun r76 => (if r76 = 0 then chk (b01 (0 : Int32)) (some (0 : Int32)) else chk (inB v2 (mLen 18)) (bP (fX7_has n w v1 (w.2 18 (v2).toNatClampNeg)) (fun r90 => (if ¬ r90 = 0 then chk (b01 (0 : Int32)) (some (0 : Int32)) else chk (b01 (1 : Int32)) (some (1 : Int32)))))))))) else chk (b01 (0 : Int32)) (some (0 : Int32)))) else chk (inB v2 (mLen 17)) (bP (fX7_upTo n w v1 (w.2 17 (v2).toNatClampNeg)) (fun r29 => chk (inB v2 (mLen 19)) ((if (w.2 19 (v2).toNatClampNeg) ≤ r29 then chk (b01 (0 : Int32)) (some (0 : Int32)) else chk (b01 (1 : Int32)) (some (1 : Int32)))))))) else chk (b01 (0 : Int32)) (some (0 : Int32))))
set_option maxRecDepth 100000 in
set_option maxHeartbeats 4000000 in
theorem sX7_isDoubted_L156 {X : JX} {a : Nat} {ad : Nat → Nat} {cI cZ cO cJ : ClassId} {n : Nat} {w : MW} {post : Option Value → va_W → Prop} (hX : jOK X cX7_isDoubted 5 wsX7_isDoubted RX7 rmX7_isDoubted) (hT : jT X = jTy cI cZ cO cJ) (hGX : jG X jG0) (hret : jRZ X cX7_isDoubted rmX7_isDoubted post) {o : (Int32)} (hex : ∀ (x3 : Int32), o = x3 → JW X 0 0 (mW a ad cI cZ w) 179 [(3, .int x3)] [])  : ∀ (k : Nat) (v1 v3 v4 : Int32), fX7_isDoubted_L156 n k w v1 v3 v4 = some o → JW X 0 0 (mW a ad cI cZ w) 156 [(0, .ref a), (1, .int v1), (3, .int v3), (4, .int v4)] [] := by
  intro k
  induction k with
  | zero => intro v1 v3 v4 h; cases h
  | succ k hrec0 =>
    intro v1 v3 v4 h
    have hrec := fun (_ : MW) => hrec0
    unfold fX7_isDoubted_L156 at h
    refine jw_iload hX dX7_isDoubted_156 3 rfl ?_
    refine jw_bipush (v := (8 : Int32)) hX dX7_isDoubted_158 (by decide) ?_
    refine jw_icmp_ge (tgt := 179) hX dX7_isDoubted_160 (by decide) (fun hc => ?_) (fun hc => ?_)
    · rw [if_pos hc] at h
      refine jw_sub [2] [(3, .int v3)] rfl ?_
      exact hex _ (Option.some.inj h).symm
    · rw [if_neg hc] at h
      refine jw_iload_n hX dX7_isDoubted_163 rfl 2 rfl ?_
      refine jw_aload_n hX dX7_isDoubted_164 rfl 0 rfl ?_
      refine jw_iload_n hX dX7_isDoubted_165 rfl 1 rfl ?_
      refine jw_iload hX dX7_isDoubted_166 3 rfl ?_
      obtain ⟨r168, hc168, h⟩ := bP_some h
      refine jw_cVi (As := [.int v1, .int v4]) hX jG0_ok hGX 2 (kX7_got hT hc168) gX7_isDoubted_X7_got rfl hdX7_got ⟨by decide, by decide⟩ 0 7 rfl rfl rfl (by decide) dX7_isDoubted_168 rfl rfl ⟨by decide, by decide⟩ ?_
      refine jw_iadd hX dX7_isDoubted_171 ?_
      refine jw_topi (fun y172 e172 => ?_)
      replace h := bnd_some h y172 e172
      clear e172
      refine jw_istore_n hX [(3, .int y172), (0, .ref a), (1, .int v1), (4, .int v4)] dX7_isDoubted_172 rfl (by decide) rfl ?_
      refine jw_iinc (v := (v4 + (1 : Int32))) hX [(4, .int (v4 + (1 : Int32))), (3, .int y172), (0, .ref a), (1, .int v1)] dX7_isDoubted_173 3 rfl (by first | rfl | (congr 1; decide)) (by decide) rfl ?_
      refine jw_goto (tgt := 156) hX dX7_isDoubted_176 (by decide) ?_
      refine jw_sub [2, 3, 1, 0] [(0, .ref a), (1, .int v1), (3, .int y172), (4, .int (v4 + (1 : Int32)))] rfl ?_
      exact hrec w _ _ _ h
set_option maxRecDepth 100000 in
set_option maxHeartbeats 4000000 in
theorem sX7_isDoubted {X : JX} {a : Nat} {ad : Nat → Nat} {cI cZ cO cJ : ClassId} {n : Nat} {w : MW} {post : Option Value → va_W → Prop} (hX : jOK X cX7_isDoubted 5 wsX7_isDoubted RX7 rmX7_isDoubted) (hT : jT X = jTy cI cZ cO cJ) (hGX : jG X jG0) (hret : jRZ X cX7_isDoubted rmX7_isDoubted post) {o : Int32} (hro : ∀ v9 : Int32, o = v9 → post (some (.int v9)) (mW a ad cI cZ w)) {v1 v2 : Int32} (h : fX7_isDoubted n w v1 v2 = some o) : JW X 0 0 (mW a ad cI cZ w) 0 [(0, .ref a), (1, .int v1), (2, .int v2)] [] := by
  unfold fX7_isDoubted at h
  refine jw_aload_n hX dX7_isDoubted_0 rfl 0 rfl ?_
  refine jw_mgetA hX hT inX7_isDoubted 20 (by decide) lkX7_isDoubted_59 rfl dX7_isDoubted_1 ?_
  refine jw_iload_n hX dX7_isDoubted_4 rfl 2 rfl ?_
  obtain ⟨hb5, h⟩ := chk_some h
  refine jw_mzald hX hT 16 20 rfl rfl hb5 dX7_isDoubted_5 ?_
  refine jw_if_eq (tgt := 11) hX dX7_isDoubted_6 (by decide) (fun hc => ?_) (fun hc => ?_)
  · rw [if_pos hc] at h
    refine jw_aload_n hX dX7_isDoubted_11 rfl 0 rfl ?_
    refine jw_mgetA hX hT inX7_isDoubted 16 (by decide) lkX7_isDoubted_47 rfl dX7_isDoubted_12 ?_
    refine jw_iload_n hX dX7_isDoubted_15 rfl 2 rfl ?_
    obtain ⟨hb16, h⟩ := chk_some h
    refine jw_miald hX hT 12 16 rfl rfl hb16 dX7_isDoubted_16 ?_
    refine jw_iconst (v := (3 : Int32)) hX dX7_isDoubted_17 (by decide) ?_
    refine jw_icmp_ne (tgt := 47) hX dX7_isDoubted_18 (by decide) (fun hc => ?_) (fun hc => ?_)
    · rw [if_pos hc] at h
      refine jw_aload_n hX dX7_isDoubted_47 rfl 0 rfl ?_
      refine jw_mgetA hX hT inX7_isDoubted 4 (by decide) lkX7_isDoubted_13 rfl dX7_isDoubted_48 ?_
      refine jw_iload_n hX dX7_isDoubted_51 rfl 1 rfl ?_
      obtain ⟨hb52, h⟩ := chk_some h
      refine jw_mzald hX hT 1 4 rfl rfl hb52 dX7_isDoubted_52 ?_
      refine jw_if_eq (tgt := 58) hX dX7_isDoubted_53 (by decide) (fun hc => ?_) (fun hc => ?_)
      · rw [if_pos hc] at h
        refine jw_aload_n hX dX7_isDoubted_58 rfl 0 rfl ?_
        refine jw_mgetA hX hT inX7_isDoubted 16 (by decide) lkX7_isDoubted_47 rfl dX7_isDoubted_59 ?_
        refine jw_iload_n hX dX7_isDoubted_62 rfl 2 rfl ?_
        obtain ⟨hb63, h⟩ := chk_some h
        refine jw_miald hX hT 12 16 rfl rfl hb63 dX7_isDoubted_63 ?_
        refine jw_iconst (v := (2 : Int32)) hX dX7_isDoubted_64 (by decide) ?_
        refine jw_icmp_ne (tgt := 102) hX dX7_isDoubted_65 (by decide) (fun hc => ?_) (fun hc => ?_)
        · rw [if_pos hc] at h
          refine jw_aload_n hX dX7_isDoubted_102 rfl 0 rfl ?_
          refine jw_mgetA hX hT inX7_isDoubted 16 (by decide) lkX7_isDoubted_47 rfl dX7_isDoubted_103 ?_
          refine jw_iload_n hX dX7_isDoubted_106 rfl 2 rfl ?_
          obtain ⟨hb107, h⟩ := chk_some h
          refine jw_miald hX hT 12 16 rfl rfl hb107 dX7_isDoubted_107 ?_
          refine jw_iconst (v := (1 : Int32)) hX dX7_isDoubted_108 (by decide) ?_
          refine jw_icmp_ne (tgt := 151) hX dX7_isDoubted_109 (by decide) (fun hc => ?_) (fun hc => ?_)
          · rw [if_pos hc] at h
            refine jw_iconst (v := (0 : Int32)) hX dX7_isDoubted_151 (by decide) ?_
            refine jw_istore_n hX [(3, .int (0 : Int32)), (0, .ref a), (1, .int v1), (2, .int v2)] dX7_isDoubted_152 rfl (by decide) rfl ?_
            refine jw_iconst (v := (0 : Int32)) hX dX7_isDoubted_153 (by decide) ?_
            refine jw_istore hX [(4, .int (0 : Int32)), (3, .int (0 : Int32)), (0, .ref a), (1, .int v1), (2, .int v2)] dX7_isDoubted_154 (by decide) rfl ?_
            refine jw_sub [2, 3, 1, 0] [(0, .ref a), (1, .int v1), (3, .int (0 : Int32)), (4, .int (0 : Int32))] rfl ?_
            obtain ⟨x3_156, hl156, h⟩ := bL1_some h
            refine sX7_isDoubted_L156 hX hT hGX hret (o := x3_156) (fun q0 e9 => ?_) n _ _ _ hl156
            cases e9
            refine jw_iload_n hX dX7_isDoubted_179 rfl 0 rfl ?_
            refine jw_if_eq (tgt := 187) hX dX7_isDoubted_180 (by decide) (fun hc => ?_) (fun hc => ?_)
            · rw [if_pos hc] at h
              refine jw_iconst (v := (0 : Int32)) hX dX7_isDoubted_187 (by decide) ?_
              obtain ⟨hz188, h⟩ := chk_some h
              exact hret _ _ _ _ _ _ (b01_or hz188) (Nat.zero_le _) (Nat.zero_le _) dX7_isDoubted_188 (hro _ (Option.some.inj h).symm)
            · rw [if_neg hc] at h
              refine jw_iconst (v := (1 : Int32)) hX dX7_isDoubted_183 (by decide) ?_
              refine jw_goto (tgt := 188) hX dX7_isDoubted_184 (by decide) ?_
              obtain ⟨hz188, h⟩ := chk_some h
              exact hret _ _ _ _ _ _ (b01_or hz188) (Nat.zero_le _) (Nat.zero_le _) dX7_isDoubted_188 (hro _ (Option.some.inj h).symm)
          · rw [if_neg hc] at h
            refine jw_aload_n hX dX7_isDoubted_112 rfl 0 rfl ?_
            refine jw_iload_n hX dX7_isDoubted_113 rfl 1 rfl ?_
            refine jw_aload_n hX dX7_isDoubted_114 rfl 0 rfl ?_
            refine jw_mgetA hX hT inX7_isDoubted 17 (by decide) lkX7_isDoubted_50 rfl dX7_isDoubted_115 ?_
            refine jw_iload_n hX dX7_isDoubted_118 rfl 2 rfl ?_
            obtain ⟨hb119, h⟩ := chk_some h
            refine jw_miald hX hT 13 17 rfl rfl hb119 dX7_isDoubted_119 ?_
            obtain ⟨r120, hc120, h⟩ := bP_some h
            refine jw_cVi (As := [.int v1, .int (w.2 17 (v2).toNatClampNeg)]) hX jG0_ok hGX 2 (kX7_got hT hc120) gX7_isDoubted_X7_got rfl hdX7_got ⟨by decide, by decide⟩ 0 7 rfl rfl rfl (by decide) dX7_isDoubted_120 rfl rfl ⟨by decide, by decide⟩ ?_
            refine jw_istore_n hX [(3, .int r120), (0, .ref a), (1, .int v1), (2, .int v2)] dX7_isDoubted_123 rfl (by decide) rfl ?_
            refine jw_iload_n hX dX7_isDoubted_124 rfl 0 rfl ?_
            refine jw_aload_n hX dX7_isDoubted_125 rfl 1 rfl ?_
            refine jw_mgetA hX hT inX7_isDoubted 19 (by decide) lkX7_isDoubted_56 rfl dX7_isDoubted_126 ?_
            refine jw_iload_n hX dX7_isDoubted_129 rfl 3 rfl ?_
            obtain ⟨hb130, h⟩ := chk_some h
            refine jw_miald hX hT 15 19 rfl rfl hb130 dX7_isDoubted_130 ?_
            refine jw_icmp_gt (tgt := 145) hX dX7_isDoubted_131 (by decide) (fun hc => ?_) (fun hc => ?_)
            · rw [if_pos hc] at h
              refine jw_iconst (v := (1 : Int32)) hX dX7_isDoubted_145 (by decide) ?_
              refine jw_goto (tgt := 150) hX dX7_isDoubted_146 (by decide) ?_
              obtain ⟨hz150, h⟩ := chk_some h
              exact hret _ _ _ _ _ _ (b01_or hz150) (Nat.zero_le _) (Nat.zero_le _) dX7_isDoubted_150 (hro _ (Option.some.inj h).symm)
            · rw [if_neg hc] at h
              refine jw_iload_n hX dX7_isDoubted_134 rfl 0 rfl ?_
              refine jw_aload_n hX dX7_isDoubted_135 rfl 1 rfl ?_
              refine jw_mgetA hX hT inX7_isDoubted 19 (by decide) lkX7_isDoubted_56 rfl dX7_isDoubted_136 ?_
              refine jw_iload_n hX dX7_isDoubted_139 rfl 3 rfl ?_
              obtain ⟨hb140, h⟩ := chk_some h
              refine jw_miald hX hT 15 19 rfl rfl hb140 dX7_isDoubted_140 ?_
              refine jw_ineg hX dX7_isDoubted_141 ?_
              refine jw_icmp_ge (tgt := 149) hX dX7_isDoubted_142 (by decide) (fun hc => ?_) (fun hc => ?_)
              · rw [if_pos hc] at h
                refine jw_iconst (v := (0 : Int32)) hX dX7_isDoubted_149 (by decide) ?_
                obtain ⟨hz150, h⟩ := chk_some h
                exact hret _ _ _ _ _ _ (b01_or hz150) (Nat.zero_le _) (Nat.zero_le _) dX7_isDoubted_150 (hro _ (Option.some.inj h).symm)
              · rw [if_neg hc] at h
                refine jw_iconst (v := (1 : Int32)) hX dX7_isDoubted_145 (by decide) ?_
                refine jw_goto (tgt := 150) hX dX7_isDoubted_146 (by decide) ?_
                obtain ⟨hz150, h⟩ := chk_some h
                exact hret _ _ _ _ _ _ (b01_or hz150) (Nat.zero_le _) (Nat.zero_le _) dX7_isDoubted_150 (hro _ (Option.some.inj h).symm)
        · rw [if_neg hc] at h
          refine jw_aload_n hX dX7_isDoubted_68 rfl 0 rfl ?_
          refine jw_iload_n hX dX7_isDoubted_69 rfl 1 rfl ?_
          refine jw_aload_n hX dX7_isDoubted_70 rfl 0 rfl ?_
          refine jw_mgetA hX hT inX7_isDoubted 17 (by decide) lkX7_isDoubted_50 rfl dX7_isDoubted_71 ?_
          refine jw_iload_n hX dX7_isDoubted_74 rfl 2 rfl ?_
          obtain ⟨hb75, h⟩ := chk_some h
          refine jw_miald hX hT 13 17 rfl rfl hb75 dX7_isDoubted_75 ?_
          obtain ⟨r76, hc76, h⟩ := bP_some h
          refine jw_cVi (As := [.int v1, .int (w.2 17 (v2).toNatClampNeg)]) hX jG0_ok hGX 2 (kX7_has hT hc76) gX7_isDoubted_X7_has rfl hdX7_has ⟨by decide, by decide⟩ 0 7 rfl rfl rfl (by decide) dX7_isDoubted_76 rfl rfl ⟨by decide, by decide⟩ ?_
          refine jw_if_eq (tgt := 100) hX dX7_isDoubted_79 (by decide) (fun hc => ?_) (fun hc => ?_)
          · rw [if_pos hc] at h
            refine jw_iconst (v := (0 : Int32)) hX dX7_isDoubted_100 (by decide) ?_
            obtain ⟨hz101, h⟩ := chk_some h
            exact hret _ _ _ _ _ _ (b01_or hz101) (Nat.zero_le _) (Nat.zero_le _) dX7_isDoubted_101 (hro _ (Option.some.inj h).symm)
          · rw [if_neg hc] at h
            refine jw_aload_n hX dX7_isDoubted_82 rfl 0 rfl ?_
            refine jw_iload_n hX dX7_isDoubted_83 rfl 1 rfl ?_
            refine jw_aload_n hX dX7_isDoubted_84 rfl 0 rfl ?_
            refine jw_mgetA hX hT inX7_isDoubted 18 (by decide) lkX7_isDoubted_53 rfl dX7_isDoubted_85 ?_
            refine jw_iload_n hX dX7_isDoubted_88 rfl 2 rfl ?_
            obtain ⟨hb89, h⟩ := chk_some h
            refine jw_miald hX hT 14 18 rfl rfl hb89 dX7_isDoubted_89 ?_
            obtain ⟨r90, hc90, h⟩ := bP_some h
            refine jw_cVi (As := [.int v1, .int (w.2 18 (v2).toNatClampNeg)]) hX jG0_ok hGX 2 (kX7_has hT hc90) gX7_isDoubted_X7_has rfl hdX7_has ⟨by decide, by decide⟩ 0 7 rfl rfl rfl (by decide) dX7_isDoubted_90 rfl rfl ⟨by decide, by decide⟩ ?_
            refine jw_if_ne (tgt := 100) hX dX7_isDoubted_93 (by decide) (fun hc => ?_) (fun hc => ?_)
            · rw [if_pos hc] at h
              refine jw_iconst (v := (0 : Int32)) hX dX7_isDoubted_100 (by decide) ?_
              obtain ⟨hz101, h⟩ := chk_some h
              exact hret _ _ _ _ _ _ (b01_or hz101) (Nat.zero_le _) (Nat.zero_le _) dX7_isDoubted_101 (hro _ (Option.some.inj h).symm)
            · rw [if_neg hc] at h
              refine jw_iconst (v := (1 : Int32)) hX dX7_isDoubted_96 (by decide) ?_
              refine jw_goto (tgt := 101) hX dX7_isDoubted_97 (by decide) ?_
              obtain ⟨hz101, h⟩ := chk_some h
              exact hret _ _ _ _ _ _ (b01_or hz101) (Nat.zero_le _) (Nat.zero_le _) dX7_isDoubted_101 (hro _ (Option.some.inj h).symm)
      · rw [if_neg hc] at h
        refine jw_iconst (v := (0 : Int32)) hX dX7_isDoubted_56 (by decide) ?_
        obtain ⟨hz57, h⟩ := chk_some h
        exact hret _ _ _ _ _ _ (b01_or hz57) (Nat.zero_le _) (Nat.zero_le _) dX7_isDoubted_57 (hro _ (Option.some.inj h).symm)
    · rw [if_neg hc] at h
      refine jw_aload_n hX dX7_isDoubted_21 rfl 0 rfl ?_
      refine jw_iload_n hX dX7_isDoubted_22 rfl 1 rfl ?_
      refine jw_aload_n hX dX7_isDoubted_23 rfl 0 rfl ?_
      refine jw_mgetA hX hT inX7_isDoubted 17 (by decide) lkX7_isDoubted_50 rfl dX7_isDoubted_24 ?_
      refine jw_iload_n hX dX7_isDoubted_27 rfl 2 rfl ?_
      obtain ⟨hb28, h⟩ := chk_some h
      refine jw_miald hX hT 13 17 rfl rfl hb28 dX7_isDoubted_28 ?_
      obtain ⟨r29, hc29, h⟩ := bP_some h
      refine jw_cVi (As := [.int v1, .int (w.2 17 (v2).toNatClampNeg)]) hX jG0_ok hGX 2 (kX7_upTo hT hc29) gX7_isDoubted_X7_upTo rfl hdX7_upTo ⟨by decide, by decide⟩ 0 7 rfl rfl rfl (by decide) dX7_isDoubted_29 rfl rfl ⟨by decide, by decide⟩ ?_
      refine jw_aload_n hX dX7_isDoubted_32 rfl 0 rfl ?_
      refine jw_mgetA hX hT inX7_isDoubted 19 (by decide) lkX7_isDoubted_56 rfl dX7_isDoubted_33 ?_
      refine jw_iload_n hX dX7_isDoubted_36 rfl 2 rfl ?_
      obtain ⟨hb37, h⟩ := chk_some h
      refine jw_miald hX hT 15 19 rfl rfl hb37 dX7_isDoubted_37 ?_
      refine jw_icmp_ge (tgt := 45) hX dX7_isDoubted_38 (by decide) (fun hc => ?_) (fun hc => ?_)
      · rw [if_pos hc] at h
        refine jw_iconst (v := (0 : Int32)) hX dX7_isDoubted_45 (by decide) ?_
        obtain ⟨hz46, h⟩ := chk_some h
        exact hret _ _ _ _ _ _ (b01_or hz46) (Nat.zero_le _) (Nat.zero_le _) dX7_isDoubted_46 (hro _ (Option.some.inj h).symm)
      · rw [if_neg hc] at h
        refine jw_iconst (v := (1 : Int32)) hX dX7_isDoubted_41 (by decide) ?_
        refine jw_goto (tgt := 46) hX dX7_isDoubted_42 (by decide) ?_
        obtain ⟨hz46, h⟩ := chk_some h
        exact hret _ _ _ _ _ _ (b01_or hz46) (Nat.zero_le _) (Nat.zero_le _) dX7_isDoubted_46 (hro _ (Option.some.inj h).symm)
  · rw [if_neg hc] at h
    refine jw_iconst (v := (0 : Int32)) hX dX7_isDoubted_9 (by decide) ?_
    obtain ⟨hz10, h⟩ := chk_some h
    exact hret _ _ _ _ _ _ (b01_or hz10) (Nat.zero_le _) (Nat.zero_le _) dX7_isDoubted_10 (hro _ (Option.some.inj h).symm)
set_option maxRecDepth 100000 in
set_option maxHeartbeats 4000000 in
theorem kX7_isDoubted {l : Launch} {D : va_G} {tys : List (ClassId × FieldType)} {a : Nat} {ad : Nat → Nat} {cI cZ cO cJ : ClassId} {n : Nat} {w : MW} {v1 v2 : Int32} {r : Int32} (hT : tys = jTy cI cZ cO cJ) (h : fX7_isDoubted n w v1 v2 = some r) : CC l jG0 D tys yX7_isDoubted wsX7_isDoubted rmX7_isDoubted [.ref a, .int v1, .int v2] (mW a ad cI cZ w) (fun ov w2 => ov = some (.int r) ∧ w2 = (mW a ad cI cZ w)) := by
  refine CC_of (cc := cX7_isDoubted) (maxL := 5) (ret := (some .boolean)) (by decide) rfl (by decide) ?_
  intro X hD hL hT0 hGX hX rI rZ rV rA
  exact sX7_isDoubted hX (hT0.trans hT) hGX (fun cells slots w9 pc lv v => rZ cells slots w9 pc lv v rfl) (o := r) (fun v9 e9 => by cases e9; exact ⟨rfl, rfl⟩) h
/-! X7_doubtedBy -/
abbrev rmX7_doubtedBy : Room := { frames := 4, cells := 0, slots := 0, locals := 93 }
theorem hdX7_doubtedBy : yX7_doubtedBy.cls = RX7 ∧ yX7_doubtedBy.cls ≠ "java/lang/invoke/MethodHandle" ∧ yX7_doubtedBy.cls ≠ "java/lang/invoke/VarHandle" ∧ (parseMethodDescriptor yX7_doubtedBy.desc).map (fun d => d.parameters.length) = some 1 := by decide +kernel
theorem inX7_doubtedBy : ∀ w ∈ wsX70, w ∈ wsX7_doubtedBy := fun _ h => List.mem_cons_of_mem _ (List.mem_append_right _ h)
theorem lkX7_doubtedBy_126 : Cond.fieldLink RX7 126 "PostlintModel" (TX7 3).2.1 (TX7 3).2.2.1 ∈ wsX7_doubtedBy := by decide +kernel
def fX7_doubtedBy_L4 (n : Nat) : Nat → MW → Int32 → Int32 → Int32 → Option (Int32)
  | 0, _, _, _, _ => none
  | k + 1, w, v1, v2, v3 => (if (w.1 3) ≤ v3 then some (v2) else bP (fX7_isDoubted n w v3 v1) (fun r16 => (if r16 = 0 then bnd ((v2 + (0 : Int32))) (fun y28 => fX7_doubtedBy_L4 n k w v1 y28 ((v3 + (1 : Int32)))) else bnd ((v2 + (1 : Int32))) (fun y28 => fX7_doubtedBy_L4 n k w v1 y28 ((v3 + (1 : Int32)))))))
def fX7_doubtedBy (n : Nat) (w : MW) (v1 : Int32) : Option Int32 := bL1 (fX7_doubtedBy_L4 n n w v1 (0 : Int32) (0 : Int32)) (fun x2_4 => some x2_4)
set_option maxRecDepth 100000 in
set_option maxHeartbeats 4000000 in
theorem sX7_doubtedBy_L4 {X : JX} {a : Nat} {ad : Nat → Nat} {cI cZ cO cJ : ClassId} {n : Nat} {w : MW} {post : Option Value → va_W → Prop} (hX : jOK X cX7_doubtedBy 4 wsX7_doubtedBy RX7 rmX7_doubtedBy) (hT : jT X = jTy cI cZ cO cJ) (hGX : jG X jG0) (hret : jRI X cX7_doubtedBy rmX7_doubtedBy post) {o : (Int32)} (hex : ∀ (x2 : Int32), o = x2 → JW X 0 0 (mW a ad cI cZ w) 35 [(2, .int x2)] [])  : ∀ (k : Nat) (v1 v2 v3 : Int32), fX7_doubtedBy_L4 n k w v1 v2 v3 = some o → JW X 0 0 (mW a ad cI cZ w) 4 [(0, .ref a), (1, .int v1), (2, .int v2), (3, .int v3)] [] := by
  intro k
  induction k with
  | zero => intro v1 v2 v3 h; cases h
  | succ k hrec0 =>
    intro v1 v2 v3 h
    have hrec := fun (_ : MW) => hrec0
    unfold fX7_doubtedBy_L4 at h
    refine jw_iload_n hX dX7_doubtedBy_4 rfl 3 rfl ?_
    refine jw_aload_n hX dX7_doubtedBy_5 rfl 0 rfl ?_
    refine jw_mgetI hX hT inX7_doubtedBy 3 (by decide) lkX7_doubtedBy_126 rfl dX7_doubtedBy_6 ?_
    refine jw_icmp_ge (tgt := 35) hX dX7_doubtedBy_9 (by decide) (fun hc => ?_) (fun hc => ?_)
    · rw [if_pos hc] at h
      refine jw_sub [2] [(2, .int v2)] rfl ?_
      exact hex _ (Option.some.inj h).symm
    · rw [if_neg hc] at h
      refine jw_iload_n hX dX7_doubtedBy_12 rfl 2 rfl ?_
      refine jw_aload_n hX dX7_doubtedBy_13 rfl 0 rfl ?_
      refine jw_iload_n hX dX7_doubtedBy_14 rfl 3 rfl ?_
      refine jw_iload_n hX dX7_doubtedBy_15 rfl 1 rfl ?_
      obtain ⟨r16, hc16, h⟩ := bP_some h
      refine jw_cVi (As := [.int v3, .int v1]) hX jG0_ok hGX 2 (kX7_isDoubted hT hc16) gX7_doubtedBy_X7_isDoubted rfl hdX7_isDoubted ⟨by decide, by decide⟩ 0 7 rfl rfl rfl (by decide) dX7_doubtedBy_16 rfl rfl ⟨by decide, by decide⟩ ?_
      refine jw_if_eq (tgt := 26) hX dX7_doubtedBy_19 (by decide) (fun hc => ?_) (fun hc => ?_)
      · rw [if_pos hc] at h
        refine jw_iconst (v := (0 : Int32)) hX dX7_doubtedBy_26 (by decide) ?_
        refine jw_iadd hX dX7_doubtedBy_27 ?_
        refine jw_topi (fun y28 e28 => ?_)
        replace h := bnd_some h y28 e28
        clear e28
        refine jw_istore_n hX [(2, .int y28), (0, .ref a), (1, .int v1), (3, .int v3)] dX7_doubtedBy_28 rfl (by decide) rfl ?_
        refine jw_iinc (v := (v3 + (1 : Int32))) hX [(3, .int (v3 + (1 : Int32))), (2, .int y28), (0, .ref a), (1, .int v1)] dX7_doubtedBy_29 3 rfl (by first | rfl | (congr 1; decide)) (by decide) rfl ?_
        refine jw_goto (tgt := 4) hX dX7_doubtedBy_32 (by decide) ?_
        refine jw_sub [2, 3, 1, 0] [(0, .ref a), (1, .int v1), (2, .int y28), (3, .int (v3 + (1 : Int32)))] rfl ?_
        exact hrec w _ _ _ h
      · rw [if_neg hc] at h
        refine jw_iconst (v := (1 : Int32)) hX dX7_doubtedBy_22 (by decide) ?_
        refine jw_goto (tgt := 27) hX dX7_doubtedBy_23 (by decide) ?_
        refine jw_iadd hX dX7_doubtedBy_27 ?_
        refine jw_topi (fun y28 e28 => ?_)
        replace h := bnd_some h y28 e28
        clear e28
        refine jw_istore_n hX [(2, .int y28), (0, .ref a), (1, .int v1), (3, .int v3)] dX7_doubtedBy_28 rfl (by decide) rfl ?_
        refine jw_iinc (v := (v3 + (1 : Int32))) hX [(3, .int (v3 + (1 : Int32))), (2, .int y28), (0, .ref a), (1, .int v1)] dX7_doubtedBy_29 3 rfl (by first | rfl | (congr 1; decide)) (by decide) rfl ?_
        refine jw_goto (tgt := 4) hX dX7_doubtedBy_32 (by decide) ?_
        refine jw_sub [2, 3, 1, 0] [(0, .ref a), (1, .int v1), (2, .int y28), (3, .int (v3 + (1 : Int32)))] rfl ?_
        exact hrec w _ _ _ h
set_option maxRecDepth 100000 in
set_option maxHeartbeats 4000000 in
theorem sX7_doubtedBy {X : JX} {a : Nat} {ad : Nat → Nat} {cI cZ cO cJ : ClassId} {n : Nat} {w : MW} {post : Option Value → va_W → Prop} (hX : jOK X cX7_doubtedBy 4 wsX7_doubtedBy RX7 rmX7_doubtedBy) (hT : jT X = jTy cI cZ cO cJ) (hGX : jG X jG0) (hret : jRI X cX7_doubtedBy rmX7_doubtedBy post) {o : Int32} (hro : ∀ v9 : Int32, o = v9 → post (some (.int v9)) (mW a ad cI cZ w)) {v1 : Int32} (h : fX7_doubtedBy n w v1 = some o) : JW X 0 0 (mW a ad cI cZ w) 0 [(0, .ref a), (1, .int v1)] [] := by
  unfold fX7_doubtedBy at h
  refine jw_iconst (v := (0 : Int32)) hX dX7_doubtedBy_0 (by decide) ?_
  refine jw_istore_n hX [(2, .int (0 : Int32)), (0, .ref a), (1, .int v1)] dX7_doubtedBy_1 rfl (by decide) rfl ?_
  refine jw_iconst (v := (0 : Int32)) hX dX7_doubtedBy_2 (by decide) ?_
  refine jw_istore_n hX [(3, .int (0 : Int32)), (2, .int (0 : Int32)), (0, .ref a), (1, .int v1)] dX7_doubtedBy_3 rfl (by decide) rfl ?_
  refine jw_sub [2, 3, 1, 0] [(0, .ref a), (1, .int v1), (2, .int (0 : Int32)), (3, .int (0 : Int32))] rfl ?_
  obtain ⟨x2_4, hl4, h⟩ := bL1_some h
  refine sX7_doubtedBy_L4 hX hT hGX hret (o := x2_4) (fun q0 e9 => ?_) n _ _ _ hl4
  cases e9
  refine jw_iload_n hX dX7_doubtedBy_35 rfl 0 rfl ?_
  exact hret _ _ _ _ _ _ (Nat.zero_le _) (Nat.zero_le _) dX7_doubtedBy_36 (hro _ (Option.some.inj h).symm)
set_option maxRecDepth 100000 in
set_option maxHeartbeats 4000000 in
theorem kX7_doubtedBy {l : Launch} {D : va_G} {tys : List (ClassId × FieldType)} {a : Nat} {ad : Nat → Nat} {cI cZ cO cJ : ClassId} {n : Nat} {w : MW} {v1 : Int32} {r : Int32} (hT : tys = jTy cI cZ cO cJ) (h : fX7_doubtedBy n w v1 = some r) : CC l jG0 D tys yX7_doubtedBy wsX7_doubtedBy rmX7_doubtedBy [.ref a, .int v1] (mW a ad cI cZ w) (fun ov w2 => ov = some (.int r) ∧ w2 = (mW a ad cI cZ w)) := by
  refine CC_of (cc := cX7_doubtedBy) (maxL := 4) (ret := (some .int)) (by decide) rfl (by decide) ?_
  intro X hD hL hT0 hGX hX rI rZ rV rA
  exact sX7_doubtedBy hX (hT0.trans hT) hGX (fun cells slots w9 pc lv v => rI cells slots w9 pc lv v rfl) (o := r) (fun v9 e9 => by cases e9; exact ⟨rfl, rfl⟩) h
/-! X7_takeBack -/
abbrev rmX7_takeBack : Room := { frames := 5, cells := 0, slots := 0, locals := 116 }
theorem hdX7_takeBack : yX7_takeBack.cls = RX7 ∧ yX7_takeBack.cls ≠ "java/lang/invoke/MethodHandle" ∧ yX7_takeBack.cls ≠ "java/lang/invoke/VarHandle" ∧ (parseMethodDescriptor yX7_takeBack.desc).map (fun d => d.parameters.length) = some 1 := by decide +kernel
theorem inX7_takeBack : ∀ w ∈ wsX70, w ∈ wsX7_takeBack := fun _ h => List.mem_cons_of_mem _ (List.mem_append_right _ h)
theorem lkX7_takeBack_59 : Cond.fieldLink RX7 59 "PostlintModel" (TX7 20).2.1 (TX7 20).2.2.1 ∈ wsX7_takeBack := by decide +kernel
def fX7_takeBack_J29 (n : Nat) (w : MW) (v1 t0 : Int32) : Option (Int32 × MW) := b2 (fX7_isOf w t0) (fun r29 w29 => (if ¬ r29 = 0 then bP (fX7_doubtedBy n w29 v1) (fun r39 => chk (inB v1 (mLen 20)) (chk (b01 (1 : Int32)) (bnd (mA w29 20 (v1).toNatClampNeg (1 : Int32)) (fun w49 => some (r39, w49))))) else some ((0 : Int32), w29)))
def fX7_takeBack (n : Nat) (w : MW) (v1 : Int32) : Option (Int32 × MW) := bP (fX7_isRule w v1) (fun r2 => (if ¬ r2 = 0 then chk (inB v1 (mLen 20)) ((if (w.2 20 (v1).toNatClampNeg) = 0 then fX7_takeBack_J29 n w v1 (0 : Int32) else fX7_takeBack_J29 n w v1 (2 : Int32))) else fX7_takeBack_J29 n w v1 (1 : Int32)))
set_option maxRecDepth 100000 in
set_option maxHeartbeats 4000000 in
theorem sX7_takeBack_J29 {X : JX} {a : Nat} {ad : Nat → Nat} {cI cZ cO cJ : ClassId} {n : Nat} {post : Option Value → va_W → Prop} (hX : jOK X cX7_takeBack 4 wsX7_takeBack RX7 rmX7_takeBack) (hT : jT X = jTy cI cZ cO cJ) (hGX : jG X jG0) (hret : jRI X cX7_takeBack rmX7_takeBack post) {o : (Int32 × MW)}   (hro : ∀ (v9 : Int32) (w9 : MW), o = (v9, w9) → post (some (.int v9)) (mW a ad cI cZ w9)) {w : MW} {v1 t0 : Int32} (h : fX7_takeBack_J29 n w v1 t0 = some o) : JW X 0 0 (mW a ad cI cZ w) 29 [(0, .ref a), (1, .int v1)] [.int t0, .ref a] := by
  unfold fX7_takeBack_J29 at h
  obtain ⟨r29, w29, hc29, h⟩ := b2_some h
  refine jw_cVi (As := [.int t0]) hX jG0_ok hGX 1 (kX7_isOf hT hc29) gX7_takeBack_X7_isOf rfl hdX7_isOf ⟨by decide, by decide⟩ 0 7 rfl rfl rfl (by decide) dX7_takeBack_29 rfl rfl ⟨by decide, by decide⟩ ?_
  refine jw_if_ne (tgt := 37) hX dX7_takeBack_32 (by decide) (fun hc => ?_) (fun hc => ?_)
  · rw [if_pos hc] at h
    refine jw_aload_n hX dX7_takeBack_37 rfl 0 rfl ?_
    refine jw_iload_n hX dX7_takeBack_38 rfl 1 rfl ?_
    obtain ⟨r39, hc39, h⟩ := bP_some h
    refine jw_cVi (As := [.int v1]) hX jG0_ok hGX 1 (kX7_doubtedBy hT hc39) gX7_takeBack_X7_doubtedBy rfl hdX7_doubtedBy ⟨by decide, by decide⟩ 0 7 rfl rfl rfl (by decide) dX7_takeBack_39 rfl rfl ⟨by decide, by decide⟩ ?_
    refine jw_istore_n hX [(3, .int r39), (0, .ref a), (1, .int v1)] dX7_takeBack_42 rfl (by decide) rfl ?_
    refine jw_aload_n hX dX7_takeBack_43 rfl 1 rfl ?_
    refine jw_mgetA hX hT inX7_takeBack 20 (by decide) lkX7_takeBack_59 rfl dX7_takeBack_44 ?_
    refine jw_iload_n hX dX7_takeBack_47 rfl 2 rfl ?_
    refine jw_iconst (v := (1 : Int32)) hX dX7_takeBack_48 (by decide) ?_
    obtain ⟨hb49, h⟩ := chk_some h
    obtain ⟨hz49, h⟩ := chk_some h
    refine jw_mzast hX hT 16 20 rfl rfl hb49 hz49 dX7_takeBack_49 (fun w49 e49 => ?_)
    replace h := bnd_some h w49 e49
    clear e49
    refine jw_iload_n hX dX7_takeBack_50 rfl 0 rfl ?_
    exact hret _ _ _ _ _ _ (Nat.zero_le _) (Nat.zero_le _) dX7_takeBack_51 (hro _ _ (Option.some.inj h).symm)
  · rw [if_neg hc] at h
    refine jw_iconst (v := (0 : Int32)) hX dX7_takeBack_35 (by decide) ?_
    exact hret _ _ _ _ _ _ (Nat.zero_le _) (Nat.zero_le _) dX7_takeBack_36 (hro _ _ (Option.some.inj h).symm)
set_option maxRecDepth 100000 in
set_option maxHeartbeats 4000000 in
theorem sX7_takeBack {X : JX} {a : Nat} {ad : Nat → Nat} {cI cZ cO cJ : ClassId} {n : Nat} {post : Option Value → va_W → Prop} (hX : jOK X cX7_takeBack 4 wsX7_takeBack RX7 rmX7_takeBack) (hT : jT X = jTy cI cZ cO cJ) (hGX : jG X jG0) (hret : jRI X cX7_takeBack rmX7_takeBack post) {o : (Int32 × MW)} (hro : ∀ (v9 : Int32) (w9 : MW), o = (v9, w9) → post (some (.int v9)) (mW a ad cI cZ w9)) {w : MW} {v1 : Int32} (h : fX7_takeBack n w v1 = some o) : JW X 0 0 (mW a ad cI cZ w) 0 [(0, .ref a), (1, .int v1)] [] := by
  unfold fX7_takeBack at h
  refine jw_aload_n hX dX7_takeBack_0 rfl 0 rfl ?_
  refine jw_iload_n hX dX7_takeBack_1 rfl 1 rfl ?_
  obtain ⟨r2, hc2, h⟩ := bP_some h
  refine jw_cVi (As := [.int v1]) hX jG0_ok hGX 1 (kX7_isRule hT hc2) gX7_takeBack_X7_isRule rfl hdX7_isRule ⟨by decide, by decide⟩ 0 7 rfl rfl rfl (by decide) dX7_takeBack_2 rfl rfl ⟨by decide, by decide⟩ ?_
  refine jw_istore_n hX [(2, .int r2), (0, .ref a), (1, .int v1)] dX7_takeBack_5 rfl (by decide) rfl ?_
  refine jw_aload_n hX dX7_takeBack_6 rfl 1 rfl ?_
  refine jw_iload_n hX dX7_takeBack_7 rfl 0 rfl ?_
  refine jw_if_ne (tgt := 15) hX dX7_takeBack_8 (by decide) (fun hc => ?_) (fun hc => ?_)
  · rw [if_pos hc] at h
    refine jw_aload_n hX dX7_takeBack_15 rfl 1 rfl ?_
    refine jw_mgetA hX hT inX7_takeBack 20 (by decide) lkX7_takeBack_59 rfl dX7_takeBack_16 ?_
    refine jw_iload_n hX dX7_takeBack_19 rfl 2 rfl ?_
    obtain ⟨hb20, h⟩ := chk_some h
    refine jw_mzald hX hT 16 20 rfl rfl hb20 dX7_takeBack_20 ?_
    refine jw_if_eq (tgt := 28) hX dX7_takeBack_21 (by decide) (fun hc => ?_) (fun hc => ?_)
    · rw [if_pos hc] at h
      refine jw_iconst (v := (0 : Int32)) hX dX7_takeBack_28 (by decide) ?_
      refine jw_sub [1, 2] [(0, .ref a), (1, .int v1)] rfl ?_
      exact sX7_takeBack_J29 hX hT hGX hret hro h
    · rw [if_neg hc] at h
      refine jw_iconst (v := (2 : Int32)) hX dX7_takeBack_24 (by decide) ?_
      refine jw_goto (tgt := 29) hX dX7_takeBack_25 (by decide) ?_
      refine jw_sub [1, 2] [(0, .ref a), (1, .int v1)] rfl ?_
      exact sX7_takeBack_J29 hX hT hGX hret hro h
  · rw [if_neg hc] at h
    refine jw_iconst (v := (1 : Int32)) hX dX7_takeBack_11 (by decide) ?_
    refine jw_goto (tgt := 29) hX dX7_takeBack_12 (by decide) ?_
    refine jw_sub [1, 2] [(0, .ref a), (1, .int v1)] rfl ?_
    exact sX7_takeBack_J29 hX hT hGX hret hro h
set_option maxRecDepth 100000 in
set_option maxHeartbeats 4000000 in
theorem kX7_takeBack {l : Launch} {D : va_G} {tys : List (ClassId × FieldType)} {a : Nat} {ad : Nat → Nat} {cI cZ cO cJ : ClassId} {n : Nat} {w : MW} {v1 : Int32} {r : Int32} {w1 : MW} (hT : tys = jTy cI cZ cO cJ) (h : fX7_takeBack n w v1 = some (r, w1)) : CC l jG0 D tys yX7_takeBack wsX7_takeBack rmX7_takeBack [.ref a, .int v1] (mW a ad cI cZ w) (fun ov w2 => ov = some (.int r) ∧ w2 = (mW a ad cI cZ w1)) := by
  refine CC_of (cc := cX7_takeBack) (maxL := 4) (ret := (some .int)) (by decide) rfl (by decide) ?_
  intro X hD hL hT0 hGX hX rI rZ rV rA
  exact sX7_takeBack hX (hT0.trans hT) hGX (fun cells slots w9 pc lv v => rI cells slots w9 pc lv v rfl) (o := (r, w1)) (fun v9 w9 e9 => by cases e9; exact ⟨rfl, rfl⟩) h
/-! X7_audit -/
abbrev rmX7_audit : Room := { frames := 2, cells := 0, slots := 0, locals := 43 }
theorem hdX7_audit : yX7_audit.cls = RX7 ∧ yX7_audit.cls ≠ "java/lang/invoke/MethodHandle" ∧ yX7_audit.cls ≠ "java/lang/invoke/VarHandle" ∧ (parseMethodDescriptor yX7_audit.desc).map (fun d => d.parameters.length) = some 2 := by decide +kernel
theorem inX7_audit : ∀ w ∈ wsX70, w ∈ wsX7_audit := fun _ h => List.mem_cons_of_mem _ (List.mem_append_right _ h)
theorem lkX7_audit_203 : Cond.fieldLink RX7 203 "PostlintModel" (TX7 21).2.1 (TX7 21).2.2.1 ∈ wsX7_audit := by decide +kernel
theorem lkX7_audit_44 : Cond.fieldLink RX7 44 "PostlintModel" (TX7 14).2.1 (TX7 14).2.2.1 ∈ wsX7_audit := by decide +kernel
theorem lkX7_audit_62 : Cond.fieldLink RX7 62 "PostlintModel" (TX7 22).2.1 (TX7 22).2.2.1 ∈ wsX7_audit := by decide +kernel
theorem lkX7_audit_65 : Cond.fieldLink RX7 65 "PostlintModel" (TX7 23).2.1 (TX7 23).2.2.1 ∈ wsX7_audit := by decide +kernel
theorem lkX7_audit_68 : Cond.fieldLink RX7 68 "PostlintModel" (TX7 24).2.1 (TX7 24).2.2.1 ∈ wsX7_audit := by decide +kernel
theorem lkX7_audit_71 : Cond.fieldLink RX7 71 "PostlintModel" (TX7 25).2.1 (TX7 25).2.2.1 ∈ wsX7_audit := by decide +kernel
def fX7_audit_J44 (w : MW) (v1 v2 t0 : Int32) : Option (Int32 × MW) := b2 (fX7_isOf w t0) (fun r44 w44 => (if ¬ r44 = 0 then chk (inB (w44.1 21) (mLen 22)) (bnd (mA w44 22 ((w44.1 21)).toNatClampNeg v1) (fun w61 => chk (inB (w61.1 21) (mLen 23)) (bnd (mA w61 23 ((w61.1 21)).toNatClampNeg v2) (fun w71 => chk (inB v2 (mLen 14)) (chk (inB (w71.1 21) (mLen 24)) (bnd (mA w71 24 ((w71.1 21)).toNatClampNeg (w71.2 14 (v2).toNatClampNeg)) (fun w86 => chk (inB (w86.1 21) (mLen 25)) (chk (b01 (0 : Int32)) (bnd (mA w86 25 ((w86.1 21)).toNatClampNeg (0 : Int32)) (fun w96 => bnd (mS w96 21 ((w96.1 21) + (1 : Int32))) (fun w104 => some (((w104.1 21) - (1 : Int32)), w104)))))))))))) else some ((0 : Int32), w44)))
def fX7_audit_J17 (w : MW) (v1 v2 : Int32) : Option (Int32 × MW) := fX7_audit_J44 w v1 v2 (1 : Int32)
def fX7_audit (w : MW) (v1 v2 : Int32) : Option (Int32 × MW) := bP (fX7_isEntry w v1) (fun r3 => (if r3 = 0 then fX7_audit_J17 w v1 v2 else bP (fX7_isEntry w v2) (fun r11 => (if ¬ r11 = 0 then (if v1 ≤ v2 then (if ¬ (w.1 21) = (6 : Int32) then fX7_audit_J44 w v1 v2 (0 : Int32) else fX7_audit_J44 w v1 v2 (3 : Int32)) else fX7_audit_J44 w v1 v2 (2 : Int32)) else fX7_audit_J17 w v1 v2))))
set_option maxRecDepth 100000 in
set_option maxHeartbeats 4000000 in
theorem sX7_audit_J44 {X : JX} {a : Nat} {ad : Nat → Nat} {cI cZ cO cJ : ClassId} {post : Option Value → va_W → Prop} (hX : jOK X cX7_audit 3 wsX7_audit RX7 rmX7_audit) (hT : jT X = jTy cI cZ cO cJ) (hGX : jG X jG0) (hret : jRI X cX7_audit rmX7_audit post) {o : (Int32 × MW)}   (hro : ∀ (v9 : Int32) (w9 : MW), o = (v9, w9) → post (some (.int v9)) (mW a ad cI cZ w9)) {w : MW} {v1 v2 t0 : Int32} (h : fX7_audit_J44 w v1 v2 t0 = some o) : JW X 0 0 (mW a ad cI cZ w) 44 [(0, .ref a), (1, .int v1), (2, .int v2)] [.int t0, .ref a] := by
  unfold fX7_audit_J44 at h
  obtain ⟨r44, w44, hc44, h⟩ := b2_some h
  refine jw_cVi (As := [.int t0]) hX jG0_ok hGX 1 (kX7_isOf hT hc44) gX7_audit_X7_isOf rfl hdX7_isOf ⟨by decide, by decide⟩ 0 7 rfl rfl rfl (by decide) dX7_audit_44 rfl rfl ⟨by decide, by decide⟩ ?_
  refine jw_if_ne (tgt := 52) hX dX7_audit_47 (by decide) (fun hc => ?_) (fun hc => ?_)
  · rw [if_pos hc] at h
    refine jw_aload_n hX dX7_audit_52 rfl 0 rfl ?_
    refine jw_mgetA hX hT inX7_audit 22 (by decide) lkX7_audit_62 rfl dX7_audit_53 ?_
    refine jw_aload_n hX dX7_audit_56 rfl 0 rfl ?_
    refine jw_mgetI hX hT inX7_audit 21 (by decide) lkX7_audit_203 rfl dX7_audit_57 ?_
    refine jw_iload_n hX dX7_audit_60 rfl 1 rfl ?_
    obtain ⟨hb61, h⟩ := chk_some h
    refine jw_miast hX hT 17 22 rfl rfl hb61 dX7_audit_61 (fun w61 e61 => ?_)
    replace h := bnd_some h w61 e61
    clear e61
    refine jw_aload_n hX dX7_audit_62 rfl 0 rfl ?_
    refine jw_mgetA hX hT inX7_audit 23 (by decide) lkX7_audit_65 rfl dX7_audit_63 ?_
    refine jw_aload_n hX dX7_audit_66 rfl 0 rfl ?_
    refine jw_mgetI hX hT inX7_audit 21 (by decide) lkX7_audit_203 rfl dX7_audit_67 ?_
    refine jw_iload_n hX dX7_audit_70 rfl 2 rfl ?_
    obtain ⟨hb71, h⟩ := chk_some h
    refine jw_miast hX hT 18 23 rfl rfl hb71 dX7_audit_71 (fun w71 e71 => ?_)
    replace h := bnd_some h w71 e71
    clear e71
    refine jw_aload_n hX dX7_audit_72 rfl 0 rfl ?_
    refine jw_mgetA hX hT inX7_audit 24 (by decide) lkX7_audit_68 rfl dX7_audit_73 ?_
    refine jw_aload_n hX dX7_audit_76 rfl 0 rfl ?_
    refine jw_mgetI hX hT inX7_audit 21 (by decide) lkX7_audit_203 rfl dX7_audit_77 ?_
    refine jw_aload_n hX dX7_audit_80 rfl 0 rfl ?_
    refine jw_mgetA hX hT inX7_audit 14 (by decide) lkX7_audit_44 rfl dX7_audit_81 ?_
    refine jw_iload_n hX dX7_audit_84 rfl 2 rfl ?_
    obtain ⟨hb85, h⟩ := chk_some h
    refine jw_miald hX hT 11 14 rfl rfl hb85 dX7_audit_85 ?_
    obtain ⟨hb86, h⟩ := chk_some h
    refine jw_miast hX hT 19 24 rfl rfl hb86 dX7_audit_86 (fun w86 e86 => ?_)
    replace h := bnd_some h w86 e86
    clear e86
    refine jw_aload_n hX dX7_audit_87 rfl 0 rfl ?_
    refine jw_mgetA hX hT inX7_audit 25 (by decide) lkX7_audit_71 rfl dX7_audit_88 ?_
    refine jw_aload_n hX dX7_audit_91 rfl 0 rfl ?_
    refine jw_mgetI hX hT inX7_audit 21 (by decide) lkX7_audit_203 rfl dX7_audit_92 ?_
    refine jw_iconst (v := (0 : Int32)) hX dX7_audit_95 (by decide) ?_
    obtain ⟨hb96, h⟩ := chk_some h
    obtain ⟨hz96, h⟩ := chk_some h
    refine jw_mzast hX hT 20 25 rfl rfl hb96 hz96 dX7_audit_96 (fun w96 e96 => ?_)
    replace h := bnd_some h w96 e96
    clear e96
    refine jw_aload_n hX dX7_audit_97 rfl 0 rfl ?_
    refine jw_dup hX dX7_audit_98 rfl ?_
    refine jw_mgetI hX hT inX7_audit 21 (by decide) lkX7_audit_203 rfl dX7_audit_99 ?_
    refine jw_iconst (v := (1 : Int32)) hX dX7_audit_102 (by decide) ?_
    refine jw_iadd hX dX7_audit_103 ?_
    refine jw_mputI hX hT inX7_audit 21 (by decide) lkX7_audit_203 rfl dX7_audit_104 (fun w104 e104 => ?_)
    replace h := bnd_some h w104 e104
    clear e104
    refine jw_aload_n hX dX7_audit_107 rfl 0 rfl ?_
    refine jw_mgetI hX hT inX7_audit 21 (by decide) lkX7_audit_203 rfl dX7_audit_108 ?_
    refine jw_iconst (v := (1 : Int32)) hX dX7_audit_111 (by decide) ?_
    refine jw_isub hX dX7_audit_112 ?_
    exact hret _ _ _ _ _ _ (Nat.zero_le _) (Nat.zero_le _) dX7_audit_113 (hro _ _ (Option.some.inj h).symm)
  · rw [if_neg hc] at h
    refine jw_iconst (v := (0 : Int32)) hX dX7_audit_50 (by decide) ?_
    exact hret _ _ _ _ _ _ (Nat.zero_le _) (Nat.zero_le _) dX7_audit_51 (hro _ _ (Option.some.inj h).symm)
set_option maxRecDepth 100000 in
set_option maxHeartbeats 4000000 in
theorem sX7_audit_J17 {X : JX} {a : Nat} {ad : Nat → Nat} {cI cZ cO cJ : ClassId} {post : Option Value → va_W → Prop} (hX : jOK X cX7_audit 3 wsX7_audit RX7 rmX7_audit) (hT : jT X = jTy cI cZ cO cJ) (hGX : jG X jG0) (hret : jRI X cX7_audit rmX7_audit post) {o : (Int32 × MW)}   (hro : ∀ (v9 : Int32) (w9 : MW), o = (v9, w9) → post (some (.int v9)) (mW a ad cI cZ w9)) {w : MW} {v1 v2 : Int32} (h : fX7_audit_J17 w v1 v2 = some o) : JW X 0 0 (mW a ad cI cZ w) 17 [(0, .ref a), (1, .int v1), (2, .int v2)] [.ref a] := by
  unfold fX7_audit_J17 at h
  refine jw_iconst (v := (1 : Int32)) hX dX7_audit_17 (by decide) ?_
  refine jw_goto (tgt := 44) hX dX7_audit_18 (by decide) ?_
  exact sX7_audit_J44 hX hT hGX hret hro h
set_option maxRecDepth 100000 in
set_option maxHeartbeats 4000000 in
theorem sX7_audit {X : JX} {a : Nat} {ad : Nat → Nat} {cI cZ cO cJ : ClassId} {post : Option Value → va_W → Prop} (hX : jOK X cX7_audit 3 wsX7_audit RX7 rmX7_audit) (hT : jT X = jTy cI cZ cO cJ) (hGX : jG X jG0) (hret : jRI X cX7_audit rmX7_audit post) {o : (Int32 × MW)} (hro : ∀ (v9 : Int32) (w9 : MW), o = (v9, w9) → post (some (.int v9)) (mW a ad cI cZ w9)) {w : MW} {v1 v2 : Int32} (h : fX7_audit w v1 v2 = some o) : JW X 0 0 (mW a ad cI cZ w) 0 [(0, .ref a), (1, .int v1), (2, .int v2)] [] := by
  unfold fX7_audit at h
  refine jw_aload_n hX dX7_audit_0 rfl 0 rfl ?_
  refine jw_aload_n hX dX7_audit_1 rfl 0 rfl ?_
  refine jw_iload_n hX dX7_audit_2 rfl 1 rfl ?_
  obtain ⟨r3, hc3, h⟩ := bP_some h
  refine jw_cVi (As := [.int v1]) hX jG0_ok hGX 1 (kX7_isEntry hT hc3) gX7_audit_X7_isEntry rfl hdX7_isEntry ⟨by decide, by decide⟩ 0 7 rfl rfl rfl (by decide) dX7_audit_3 rfl rfl ⟨by decide, by decide⟩ ?_
  refine jw_if_eq (tgt := 17) hX dX7_audit_6 (by decide) (fun hc => ?_) (fun hc => ?_)
  · rw [if_pos hc] at h
    exact sX7_audit_J17 hX hT hGX hret hro h
  · rw [if_neg hc] at h
    refine jw_aload_n hX dX7_audit_9 rfl 0 rfl ?_
    refine jw_iload_n hX dX7_audit_10 rfl 2 rfl ?_
    obtain ⟨r11, hc11, h⟩ := bP_some h
    refine jw_cVi (As := [.int v2]) hX jG0_ok hGX 1 (kX7_isEntry hT hc11) gX7_audit_X7_isEntry rfl hdX7_isEntry ⟨by decide, by decide⟩ 0 7 rfl rfl rfl (by decide) dX7_audit_11 rfl rfl ⟨by decide, by decide⟩ ?_
    refine jw_if_ne (tgt := 21) hX dX7_audit_14 (by decide) (fun hc => ?_) (fun hc => ?_)
    · rw [if_pos hc] at h
      refine jw_iload_n hX dX7_audit_21 rfl 2 rfl ?_
      refine jw_iload_n hX dX7_audit_22 rfl 1 rfl ?_
      refine jw_icmp_ge (tgt := 30) hX dX7_audit_23 (by decide) (fun hc => ?_) (fun hc => ?_)
      · rw [if_pos hc] at h
        refine jw_aload_n hX dX7_audit_30 rfl 0 rfl ?_
        refine jw_mgetI hX hT inX7_audit 21 (by decide) lkX7_audit_203 rfl dX7_audit_31 ?_
        refine jw_bipush (v := (6 : Int32)) hX dX7_audit_34 (by decide) ?_
        refine jw_icmp_ne (tgt := 43) hX dX7_audit_36 (by decide) (fun hc => ?_) (fun hc => ?_)
        · rw [if_pos hc] at h
          refine jw_iconst (v := (0 : Int32)) hX dX7_audit_43 (by decide) ?_
          exact sX7_audit_J44 hX hT hGX hret hro h
        · rw [if_neg hc] at h
          refine jw_iconst (v := (3 : Int32)) hX dX7_audit_39 (by decide) ?_
          refine jw_goto (tgt := 44) hX dX7_audit_40 (by decide) ?_
          exact sX7_audit_J44 hX hT hGX hret hro h
      · rw [if_neg hc] at h
        refine jw_iconst (v := (2 : Int32)) hX dX7_audit_26 (by decide) ?_
        refine jw_goto (tgt := 44) hX dX7_audit_27 (by decide) ?_
        exact sX7_audit_J44 hX hT hGX hret hro h
    · rw [if_neg hc] at h
      exact sX7_audit_J17 hX hT hGX hret hro h
set_option maxRecDepth 100000 in
set_option maxHeartbeats 4000000 in
theorem kX7_audit {l : Launch} {D : va_G} {tys : List (ClassId × FieldType)} {a : Nat} {ad : Nat → Nat} {cI cZ cO cJ : ClassId} {w : MW} {v1 v2 : Int32} {r : Int32} {w1 : MW} (hT : tys = jTy cI cZ cO cJ) (h : fX7_audit w v1 v2 = some (r, w1)) : CC l jG0 D tys yX7_audit wsX7_audit rmX7_audit [.ref a, .int v1, .int v2] (mW a ad cI cZ w) (fun ov w2 => ov = some (.int r) ∧ w2 = (mW a ad cI cZ w1)) := by
  refine CC_of (cc := cX7_audit) (maxL := 3) (ret := (some .int)) (by decide) rfl (by decide) ?_
  intro X hD hL hT0 hGX hX rI rZ rV rA
  exact sX7_audit hX (hT0.trans hT) hGX (fun cells slots w9 pc lv v => rI cells slots w9 pc lv v rfl) (o := (r, w1)) (fun v9 w9 e9 => by cases e9; exact ⟨rfl, rfl⟩) h
/-! X7_isAudit -/
abbrev rmX7_isAudit : Room := { frames := 1, cells := 0, slots := 0, locals := 22 }
theorem hdX7_isAudit : yX7_isAudit.cls = RX7 ∧ yX7_isAudit.cls ≠ "java/lang/invoke/MethodHandle" ∧ yX7_isAudit.cls ≠ "java/lang/invoke/VarHandle" ∧ (parseMethodDescriptor yX7_isAudit.desc).map (fun d => d.parameters.length) = some 1 := by decide +kernel
theorem inX7_isAudit : ∀ w ∈ wsX70, w ∈ wsX7_isAudit := fun _ h => List.mem_cons_of_mem _ (List.mem_append_right _ h)
theorem lkX7_isAudit_203 : Cond.fieldLink RX7 203 "PostlintModel" (TX7 21).2.1 (TX7 21).2.2.1 ∈ wsX7_isAudit := by decide +kernel
def fX7_isAudit (w : MW) (v1 : Int32) : Option Int32 := bP (fX7_isIn v1 (0 : Int32) ((w.1 21) - (1 : Int32))) (fun r8 => chk (b01 r8) (some r8))
set_option maxRecDepth 100000 in
set_option maxHeartbeats 4000000 in
theorem sX7_isAudit {X : JX} {a : Nat} {ad : Nat → Nat} {cI cZ cO cJ : ClassId} {w : MW} {post : Option Value → va_W → Prop} (hX : jOK X cX7_isAudit 2 wsX7_isAudit RX7 rmX7_isAudit) (hT : jT X = jTy cI cZ cO cJ) (hGX : jG X jG0) (hret : jRZ X cX7_isAudit rmX7_isAudit post) {o : Int32} (hro : ∀ v9 : Int32, o = v9 → post (some (.int v9)) (mW a ad cI cZ w)) {v1 : Int32} (h : fX7_isAudit w v1 = some o) : JW X 0 0 (mW a ad cI cZ w) 0 [(0, .ref a), (1, .int v1)] [] := by
  unfold fX7_isAudit at h
  refine jw_iload_n hX dX7_isAudit_0 rfl 1 rfl ?_
  refine jw_iconst (v := (0 : Int32)) hX dX7_isAudit_1 (by decide) ?_
  refine jw_aload_n hX dX7_isAudit_2 rfl 0 rfl ?_
  refine jw_mgetI hX hT inX7_isAudit 21 (by decide) lkX7_isAudit_203 rfl dX7_isAudit_3 ?_
  refine jw_iconst (v := (1 : Int32)) hX dX7_isAudit_6 (by decide) ?_
  refine jw_isub hX dX7_isAudit_7 ?_
  obtain ⟨r8, hc8, h⟩ := bP_some h
  refine jw_cSi (As := [.int v1, .int (0 : Int32), .int ((w.1 21) - (1 : Int32))]) hX jG0_ok hGX 3 (kX7_isIn hT hc8) gX7_isAudit_X7_isIn rfl hdX7_isIn ⟨by decide, by decide⟩ rfl (by decide) dX7_isAudit_8 rfl rfl ⟨by decide, by decide⟩ ?_
  obtain ⟨hz11, h⟩ := chk_some h
  exact hret _ _ _ _ _ _ (b01_or hz11) (Nat.zero_le _) (Nat.zero_le _) dX7_isAudit_11 (hro _ (Option.some.inj h).symm)
set_option maxRecDepth 100000 in
set_option maxHeartbeats 4000000 in
theorem kX7_isAudit {l : Launch} {D : va_G} {tys : List (ClassId × FieldType)} {a : Nat} {ad : Nat → Nat} {cI cZ cO cJ : ClassId} {w : MW} {v1 : Int32} {r : Int32} (hT : tys = jTy cI cZ cO cJ) (h : fX7_isAudit w v1 = some r) : CC l jG0 D tys yX7_isAudit wsX7_isAudit rmX7_isAudit [.ref a, .int v1] (mW a ad cI cZ w) (fun ov w2 => ov = some (.int r) ∧ w2 = (mW a ad cI cZ w)) := by
  refine CC_of (cc := cX7_isAudit) (maxL := 2) (ret := (some .boolean)) (by decide) rfl (by decide) ?_
  intro X hD hL hT0 hGX hX rI rZ rV rA
  exact sX7_isAudit hX (hT0.trans hT) hGX (fun cells slots w9 pc lv v => rZ cells slots w9 pc lv v rfl) (o := r) (fun v9 e9 => by cases e9; exact ⟨rfl, rfl⟩) h
/-! X7_end -/
abbrev rmX7_end : Room := { frames := 2, cells := 0, slots := 0, locals := 43 }
theorem hdX7_end : yX7_end.cls = RX7 ∧ yX7_end.cls ≠ "java/lang/invoke/MethodHandle" ∧ yX7_end.cls ≠ "java/lang/invoke/VarHandle" ∧ (parseMethodDescriptor yX7_end.desc).map (fun d => d.parameters.length) = some 1 := by decide +kernel
theorem inX7_end : ∀ w ∈ wsX70, w ∈ wsX7_end := fun _ h => List.mem_cons_of_mem _ (List.mem_append_right _ h)
theorem lkX7_end_44 : Cond.fieldLink RX7 44 "PostlintModel" (TX7 14).2.1 (TX7 14).2.2.1 ∈ wsX7_end := by decide +kernel
theorem lkX7_end_65 : Cond.fieldLink RX7 65 "PostlintModel" (TX7 23).2.1 (TX7 23).2.2.1 ∈ wsX7_end := by decide +kernel
theorem lkX7_end_68 : Cond.fieldLink RX7 68 "PostlintModel" (TX7 24).2.1 (TX7 24).2.2.1 ∈ wsX7_end := by decide +kernel
theorem lkX7_end_71 : Cond.fieldLink RX7 71 "PostlintModel" (TX7 25).2.1 (TX7 25).2.2.1 ∈ wsX7_end := by decide +kernel
def fX7_end_J29 (w : MW) (v1 t0 : Int32) : Option (Int32 × MW) := b2 (fX7_isOf w t0) (fun r29 w29 => (if ¬ r29 = 0 then chk (inB v1 (mLen 25)) (chk (b01 (1 : Int32)) (bnd (mA w29 25 (v1).toNatClampNeg (1 : Int32)) (fun w43 => chk (inB v1 (mLen 23)) (chk (inB (w43.2 23 (v1).toNatClampNeg) (mLen 14)) (chk (inB v1 (mLen 24)) ((if ¬ (w43.2 14 ((w43.2 23 (v1).toNatClampNeg)).toNatClampNeg) = (w43.2 24 (v1).toNatClampNeg) then chk (b01 (0 : Int32)) (some ((0 : Int32), w43)) else chk (b01 (1 : Int32)) (some ((1 : Int32), w43))))))))) else chk (b01 (0 : Int32)) (some ((0 : Int32), w29))))
def fX7_end (w : MW) (v1 : Int32) : Option (Int32 × MW) := bP (fX7_isAudit w v1) (fun r2 => (if ¬ r2 = 0 then chk (inB v1 (mLen 25)) ((if (w.2 25 (v1).toNatClampNeg) = 0 then fX7_end_J29 w v1 (0 : Int32) else fX7_end_J29 w v1 (2 : Int32))) else fX7_end_J29 w v1 (1 : Int32)))
set_option maxRecDepth 100000 in
set_option maxHeartbeats 4000000 in
theorem sX7_end_J29 {X : JX} {a : Nat} {ad : Nat → Nat} {cI cZ cO cJ : ClassId} {post : Option Value → va_W → Prop} (hX : jOK X cX7_end 3 wsX7_end RX7 rmX7_end) (hT : jT X = jTy cI cZ cO cJ) (hGX : jG X jG0) (hret : jRZ X cX7_end rmX7_end post) {o : (Int32 × MW)}   (hro : ∀ (v9 : Int32) (w9 : MW), o = (v9, w9) → post (some (.int v9)) (mW a ad cI cZ w9)) {w : MW} {v1 t0 : Int32} (h : fX7_end_J29 w v1 t0 = some o) : JW X 0 0 (mW a ad cI cZ w) 29 [(0, .ref a), (1, .int v1)] [.int t0, .ref a] := by
  unfold fX7_end_J29 at h
  obtain ⟨r29, w29, hc29, h⟩ := b2_some h
  refine jw_cVi (As := [.int t0]) hX jG0_ok hGX 1 (kX7_isOf hT hc29) gX7_end_X7_isOf rfl hdX7_isOf ⟨by decide, by decide⟩ 0 7 rfl rfl rfl (by decide) dX7_end_29 rfl rfl ⟨by decide, by decide⟩ ?_
  refine jw_if_ne (tgt := 37) hX dX7_end_32 (by decide) (fun hc => ?_) (fun hc => ?_)
  · rw [if_pos hc] at h
    refine jw_aload_n hX dX7_end_37 rfl 0 rfl ?_
    refine jw_mgetA hX hT inX7_end 25 (by decide) lkX7_end_71 rfl dX7_end_38 ?_
    refine jw_iload_n hX dX7_end_41 rfl 1 rfl ?_
    refine jw_iconst (v := (1 : Int32)) hX dX7_end_42 (by decide) ?_
    obtain ⟨hb43, h⟩ := chk_some h
    obtain ⟨hz43, h⟩ := chk_some h
    refine jw_mzast hX hT 20 25 rfl rfl hb43 hz43 dX7_end_43 (fun w43 e43 => ?_)
    replace h := bnd_some h w43 e43
    clear e43
    refine jw_aload_n hX dX7_end_44 rfl 0 rfl ?_
    refine jw_mgetA hX hT inX7_end 14 (by decide) lkX7_end_44 rfl dX7_end_45 ?_
    refine jw_aload_n hX dX7_end_48 rfl 0 rfl ?_
    refine jw_mgetA hX hT inX7_end 23 (by decide) lkX7_end_65 rfl dX7_end_49 ?_
    refine jw_iload_n hX dX7_end_52 rfl 1 rfl ?_
    obtain ⟨hb53, h⟩ := chk_some h
    refine jw_miald hX hT 18 23 rfl rfl hb53 dX7_end_53 ?_
    obtain ⟨hb54, h⟩ := chk_some h
    refine jw_miald hX hT 11 14 rfl rfl hb54 dX7_end_54 ?_
    refine jw_aload_n hX dX7_end_55 rfl 0 rfl ?_
    refine jw_mgetA hX hT inX7_end 24 (by decide) lkX7_end_68 rfl dX7_end_56 ?_
    refine jw_iload_n hX dX7_end_59 rfl 1 rfl ?_
    obtain ⟨hb60, h⟩ := chk_some h
    refine jw_miald hX hT 19 24 rfl rfl hb60 dX7_end_60 ?_
    refine jw_icmp_ne (tgt := 68) hX dX7_end_61 (by decide) (fun hc => ?_) (fun hc => ?_)
    · rw [if_pos hc] at h
      refine jw_iconst (v := (0 : Int32)) hX dX7_end_68 (by decide) ?_
      obtain ⟨hz69, h⟩ := chk_some h
      exact hret _ _ _ _ _ _ (b01_or hz69) (Nat.zero_le _) (Nat.zero_le _) dX7_end_69 (hro _ _ (Option.some.inj h).symm)
    · rw [if_neg hc] at h
      refine jw_iconst (v := (1 : Int32)) hX dX7_end_64 (by decide) ?_
      refine jw_goto (tgt := 69) hX dX7_end_65 (by decide) ?_
      obtain ⟨hz69, h⟩ := chk_some h
      exact hret _ _ _ _ _ _ (b01_or hz69) (Nat.zero_le _) (Nat.zero_le _) dX7_end_69 (hro _ _ (Option.some.inj h).symm)
  · rw [if_neg hc] at h
    refine jw_iconst (v := (0 : Int32)) hX dX7_end_35 (by decide) ?_
    obtain ⟨hz36, h⟩ := chk_some h
    exact hret _ _ _ _ _ _ (b01_or hz36) (Nat.zero_le _) (Nat.zero_le _) dX7_end_36 (hro _ _ (Option.some.inj h).symm)
set_option maxRecDepth 100000 in
set_option maxHeartbeats 4000000 in
theorem sX7_end {X : JX} {a : Nat} {ad : Nat → Nat} {cI cZ cO cJ : ClassId} {post : Option Value → va_W → Prop} (hX : jOK X cX7_end 3 wsX7_end RX7 rmX7_end) (hT : jT X = jTy cI cZ cO cJ) (hGX : jG X jG0) (hret : jRZ X cX7_end rmX7_end post) {o : (Int32 × MW)} (hro : ∀ (v9 : Int32) (w9 : MW), o = (v9, w9) → post (some (.int v9)) (mW a ad cI cZ w9)) {w : MW} {v1 : Int32} (h : fX7_end w v1 = some o) : JW X 0 0 (mW a ad cI cZ w) 0 [(0, .ref a), (1, .int v1)] [] := by
  unfold fX7_end at h
  refine jw_aload_n hX dX7_end_0 rfl 0 rfl ?_
  refine jw_iload_n hX dX7_end_1 rfl 1 rfl ?_
  obtain ⟨r2, hc2, h⟩ := bP_some h
  refine jw_cVi (As := [.int v1]) hX jG0_ok hGX 1 (kX7_isAudit hT hc2) gX7_end_X7_isAudit rfl hdX7_isAudit ⟨by decide, by decide⟩ 0 7 rfl rfl rfl (by decide) dX7_end_2 rfl rfl ⟨by decide, by decide⟩ ?_
  refine jw_istore_n hX [(2, .int r2), (0, .ref a), (1, .int v1)] dX7_end_5 rfl (by decide) rfl ?_
  refine jw_aload_n hX dX7_end_6 rfl 1 rfl ?_
  refine jw_iload_n hX dX7_end_7 rfl 0 rfl ?_
  refine jw_if_ne (tgt := 15) hX dX7_end_8 (by decide) (fun hc => ?_) (fun hc => ?_)
  · rw [if_pos hc] at h
    refine jw_aload_n hX dX7_end_15 rfl 1 rfl ?_
    refine jw_mgetA hX hT inX7_end 25 (by decide) lkX7_end_71 rfl dX7_end_16 ?_
    refine jw_iload_n hX dX7_end_19 rfl 2 rfl ?_
    obtain ⟨hb20, h⟩ := chk_some h
    refine jw_mzald hX hT 20 25 rfl rfl hb20 dX7_end_20 ?_
    refine jw_if_eq (tgt := 28) hX dX7_end_21 (by decide) (fun hc => ?_) (fun hc => ?_)
    · rw [if_pos hc] at h
      refine jw_iconst (v := (0 : Int32)) hX dX7_end_28 (by decide) ?_
      refine jw_sub [1, 2] [(0, .ref a), (1, .int v1)] rfl ?_
      exact sX7_end_J29 hX hT hGX hret hro h
    · rw [if_neg hc] at h
      refine jw_iconst (v := (2 : Int32)) hX dX7_end_24 (by decide) ?_
      refine jw_goto (tgt := 29) hX dX7_end_25 (by decide) ?_
      refine jw_sub [1, 2] [(0, .ref a), (1, .int v1)] rfl ?_
      exact sX7_end_J29 hX hT hGX hret hro h
  · rw [if_neg hc] at h
    refine jw_iconst (v := (1 : Int32)) hX dX7_end_11 (by decide) ?_
    refine jw_goto (tgt := 29) hX dX7_end_12 (by decide) ?_
    refine jw_sub [1, 2] [(0, .ref a), (1, .int v1)] rfl ?_
    exact sX7_end_J29 hX hT hGX hret hro h
set_option maxRecDepth 100000 in
set_option maxHeartbeats 4000000 in
theorem kX7_end {l : Launch} {D : va_G} {tys : List (ClassId × FieldType)} {a : Nat} {ad : Nat → Nat} {cI cZ cO cJ : ClassId} {w : MW} {v1 : Int32} {r : Int32} {w1 : MW} (hT : tys = jTy cI cZ cO cJ) (h : fX7_end w v1 = some (r, w1)) : CC l jG0 D tys yX7_end wsX7_end rmX7_end [.ref a, .int v1] (mW a ad cI cZ w) (fun ov w2 => ov = some (.int r) ∧ w2 = (mW a ad cI cZ w1)) := by
  refine CC_of (cc := cX7_end) (maxL := 3) (ret := (some .boolean)) (by decide) rfl (by decide) ?_
  intro X hD hL hT0 hGX hX rI rZ rV rA
  exact sX7_end hX (hT0.trans hT) hGX (fun cells slots w9 pc lv v => rZ cells slots w9 pc lv v rfl) (o := (r, w1)) (fun v9 w9 e9 => by cases e9; exact ⟨rfl, rfl⟩) h
/-! X7_entries -/
abbrev rmX7_entries : Room := { frames := 0, cells := 0, slots := 0, locals := 0 }
theorem hdX7_entries : yX7_entries.cls = RX7 ∧ yX7_entries.cls ≠ "java/lang/invoke/MethodHandle" ∧ yX7_entries.cls ≠ "java/lang/invoke/VarHandle" ∧ (parseMethodDescriptor yX7_entries.desc).map (fun d => d.parameters.length) = some 0 := by decide +kernel
theorem inX7_entries : ∀ w ∈ wsX70, w ∈ wsX7_entries := fun _ h => List.mem_cons_of_mem _ (List.mem_append_right _ h)
theorem lkX7_entries_122 : Cond.fieldLink RX7 122 "PostlintModel" (TX7 0).2.1 (TX7 0).2.2.1 ∈ wsX7_entries := by decide +kernel
theorem lkX7_entries_126 : Cond.fieldLink RX7 126 "PostlintModel" (TX7 3).2.1 (TX7 3).2.2.1 ∈ wsX7_entries := by decide +kernel
def fX7_entries (w : MW) : Option (Int32 × MW) := bnd (mS w 0 (0 : Int32)) (fun w2 => some ((w2.1 3), w2))
set_option maxRecDepth 100000 in
set_option maxHeartbeats 4000000 in
theorem sX7_entries {X : JX} {a : Nat} {ad : Nat → Nat} {cI cZ cO cJ : ClassId} {post : Option Value → va_W → Prop} (hX : jOK X cX7_entries 1 wsX7_entries RX7 rmX7_entries) (hT : jT X = jTy cI cZ cO cJ) (hGX : jG X jG0) (hret : jRI X cX7_entries rmX7_entries post) {o : (Int32 × MW)} (hro : ∀ (v9 : Int32) (w9 : MW), o = (v9, w9) → post (some (.int v9)) (mW a ad cI cZ w9)) {w : MW} (h : fX7_entries w  = some o) : JW X 0 0 (mW a ad cI cZ w) 0 [(0, .ref a)] [] := by
  unfold fX7_entries at h
  refine jw_aload_n hX dX7_entries_0 rfl 0 rfl ?_
  refine jw_iconst (v := (0 : Int32)) hX dX7_entries_1 (by decide) ?_
  refine jw_mputI hX hT inX7_entries 0 (by decide) lkX7_entries_122 rfl dX7_entries_2 (fun w2 e2 => ?_)
  replace h := bnd_some h w2 e2
  clear e2
  refine jw_aload_n hX dX7_entries_5 rfl 0 rfl ?_
  refine jw_mgetI hX hT inX7_entries 3 (by decide) lkX7_entries_126 rfl dX7_entries_6 ?_
  exact hret _ _ _ _ _ _ (Nat.zero_le _) (Nat.zero_le _) dX7_entries_9 (hro _ _ (Option.some.inj h).symm)
set_option maxRecDepth 100000 in
set_option maxHeartbeats 4000000 in
theorem kX7_entries {l : Launch} {D : va_G} {tys : List (ClassId × FieldType)} {a : Nat} {ad : Nat → Nat} {cI cZ cO cJ : ClassId} {w : MW}  {r : Int32} {w1 : MW} (hT : tys = jTy cI cZ cO cJ) (h : fX7_entries w  = some (r, w1)) : CC l jG0 D tys yX7_entries wsX7_entries rmX7_entries [.ref a] (mW a ad cI cZ w) (fun ov w2 => ov = some (.int r) ∧ w2 = (mW a ad cI cZ w1)) := by
  refine CC_of (cc := cX7_entries) (maxL := 1) (ret := (some .int)) (by decide) rfl (by decide) ?_
  intro X hD hL hT0 hGX hX rI rZ rV rA
  exact sX7_entries hX (hT0.trans hT) hGX (fun cells slots w9 pc lv v => rI cells slots w9 pc lv v rfl) (o := (r, w1)) (fun v9 w9 e9 => by cases e9; exact ⟨rfl, rfl⟩) h
/-! X7_numberLong -/
abbrev rmX7_numberLong : Room := { frames := 0, cells := 0, slots := 0, locals := 0 }
theorem hdX7_numberLong : yX7_numberLong.cls ≠ "java/lang/invoke/MethodHandle" ∧ yX7_numberLong.cls ≠ "java/lang/invoke/VarHandle" ∧ (parseMethodDescriptor yX7_numberLong.desc).map (fun d => d.parameters.length) = some 1 := by decide +kernel
def fX7_numberLong (v0 : Int32) : Option Int32 := (if v0 ≤ (99 : Int32) then (if v0 ≤ (9 : Int32) then some (1 : Int32) else some (2 : Int32)) else some (3 : Int32))
set_option maxRecDepth 100000 in
set_option maxHeartbeats 4000000 in
theorem sX7_numberLong {X : JX} {cI cZ cO cJ : ClassId} {wv : va_W} {post : Option Value → va_W → Prop} (hX : jOK X cX7_numberLong 1 wsX7_numberLong RX7 rmX7_numberLong) (hT : jT X = jTy cI cZ cO cJ) (hGX : jG X jG0) (hret : jRI X cX7_numberLong rmX7_numberLong post) {o : Int32} (hro : ∀ v9 : Int32, o = v9 → post (some (.int v9)) wv) {v0 : Int32} (h : fX7_numberLong v0 = some o) : JW X 0 0 wv 0 [(0, .int v0)] [] := by
  unfold fX7_numberLong at h
  refine jw_iload_n hX dX7_numberLong_0 rfl 0 rfl ?_
  refine jw_bipush (v := (99 : Int32)) hX dX7_numberLong_1 (by decide) ?_
  refine jw_icmp_le (tgt := 10) hX dX7_numberLong_3 (by decide) (fun hc => ?_) (fun hc => ?_)
  · rw [if_pos hc] at h
    refine jw_iload_n hX dX7_numberLong_10 rfl 0 rfl ?_
    refine jw_bipush (v := (9 : Int32)) hX dX7_numberLong_11 (by decide) ?_
    refine jw_icmp_le (tgt := 20) hX dX7_numberLong_13 (by decide) (fun hc => ?_) (fun hc => ?_)
    · rw [if_pos hc] at h
      refine jw_iconst (v := (1 : Int32)) hX dX7_numberLong_20 (by decide) ?_
      exact hret _ _ _ _ _ _ (Nat.zero_le _) (Nat.zero_le _) dX7_numberLong_21 (hro _ (Option.some.inj h).symm)
    · rw [if_neg hc] at h
      refine jw_iconst (v := (2 : Int32)) hX dX7_numberLong_16 (by decide) ?_
      refine jw_goto (tgt := 21) hX dX7_numberLong_17 (by decide) ?_
      exact hret _ _ _ _ _ _ (Nat.zero_le _) (Nat.zero_le _) dX7_numberLong_21 (hro _ (Option.some.inj h).symm)
  · rw [if_neg hc] at h
    refine jw_iconst (v := (3 : Int32)) hX dX7_numberLong_6 (by decide) ?_
    refine jw_goto (tgt := 21) hX dX7_numberLong_7 (by decide) ?_
    exact hret _ _ _ _ _ _ (Nat.zero_le _) (Nat.zero_le _) dX7_numberLong_21 (hro _ (Option.some.inj h).symm)
set_option maxRecDepth 100000 in
set_option maxHeartbeats 4000000 in
theorem kX7_numberLong {l : Launch} {D : va_G} {tys : List (ClassId × FieldType)} {cI cZ cO cJ : ClassId} {wv : va_W} {v0 : Int32} {r : Int32} (hT : tys = jTy cI cZ cO cJ) (h : fX7_numberLong v0 = some r) : CC l jG0 D tys yX7_numberLong wsX7_numberLong rmX7_numberLong [.int v0] wv (fun ov w2 => ov = some (.int r) ∧ w2 = wv) := by
  refine CC_of (cc := cX7_numberLong) (maxL := 1) (ret := (some .int)) (by decide) rfl (by decide) ?_
  intro X hD hL hT0 hGX hX rI rZ rV rA
  exact sX7_numberLong hX (hT0.trans hT) hGX (fun cells slots w9 pc lv v => rI cells slots w9 pc lv v rfl) (o := r) (fun v9 e9 => by cases e9; exact ⟨rfl, rfl⟩) h
/-! X7_spreadLong -/
abbrev rmX7_spreadLong : Room := { frames := 1, cells := 0, slots := 0, locals := 20 }
theorem hdX7_spreadLong : yX7_spreadLong.cls = RX7 ∧ yX7_spreadLong.cls ≠ "java/lang/invoke/MethodHandle" ∧ yX7_spreadLong.cls ≠ "java/lang/invoke/VarHandle" ∧ (parseMethodDescriptor yX7_spreadLong.desc).map (fun d => d.parameters.length) = some 1 := by decide +kernel
theorem inX7_spreadLong : ∀ w ∈ wsX70, w ∈ wsX7_spreadLong := fun _ h => List.mem_cons_of_mem _ (List.mem_append_right _ h)
theorem lkX7_spreadLong_13 : Cond.fieldLink RX7 13 "PostlintModel" (TX7 4).2.1 (TX7 4).2.2.1 ∈ wsX7_spreadLong := by decide +kernel
theorem lkX7_spreadLong_29 : Cond.fieldLink RX7 29 "PostlintModel" (TX7 9).2.1 (TX7 9).2.2.1 ∈ wsX7_spreadLong := by decide +kernel
theorem lkX7_spreadLong_38 : Cond.fieldLink RX7 38 "PostlintModel" (TX7 12).2.1 (TX7 12).2.2.1 ∈ wsX7_spreadLong := by decide +kernel
theorem lkX7_spreadLong_41 : Cond.fieldLink RX7 41 "PostlintModel" (TX7 13).2.1 (TX7 13).2.2.1 ∈ wsX7_spreadLong := by decide +kernel
def fX7_spreadLong_L18 (n : Nat) : Nat → MW → Int32 → Int32 → Int32 → Option (Int32)
  | 0, _, _, _, _ => none
  | k + 1, w, v1, v2, v3 => chk (inB v1 (mLen 9)) ((if (((16 : Int32) * v1) + (w.2 9 (v1).toNatClampNeg)) ≤ v3 then some (v2) else chk (inB v3 (mLen 13)) (chk (inB v3 (mLen 12)) (bP (fX7_numberLong (w.2 12 (v3).toNatClampNeg)) (fun r47 => bnd ((v2 + ((w.2 13 (v3).toNatClampNeg) * ((3 : Int32) + r47)))) (fun y53 => fX7_spreadLong_L18 n k w v1 y53 ((v3 + (1 : Int32)))))))))
def fX7_spreadLong (n : Nat) (w : MW) (v1 : Int32) : Option Int32 := chk (inB v1 (mLen 4)) ((if (w.2 4 (v1).toNatClampNeg) = 0 then bnd (((16 : Int32) * v1)) (fun y17 => bL1 (fX7_spreadLong_L18 n n w v1 (-1 : Int32) y17) (fun x2_18 => some x2_18)) else some (1 : Int32)))
set_option maxRecDepth 100000 in
set_option maxHeartbeats 4000000 in
theorem sX7_spreadLong_L18 {X : JX} {a : Nat} {ad : Nat → Nat} {cI cZ cO cJ : ClassId} {n : Nat} {w : MW} {post : Option Value → va_W → Prop} (hX : jOK X cX7_spreadLong 4 wsX7_spreadLong RX7 rmX7_spreadLong) (hT : jT X = jTy cI cZ cO cJ) (hGX : jG X jG0) (hret : jRI X cX7_spreadLong rmX7_spreadLong post) {o : (Int32)} (hex : ∀ (x2 : Int32), o = x2 → JW X 0 0 (mW a ad cI cZ w) 60 [(2, .int x2)] [])  : ∀ (k : Nat) (v1 v2 v3 : Int32), fX7_spreadLong_L18 n k w v1 v2 v3 = some o → JW X 0 0 (mW a ad cI cZ w) 18 [(0, .ref a), (1, .int v1), (2, .int v2), (3, .int v3)] [] := by
  intro k
  induction k with
  | zero => intro v1 v2 v3 h; cases h
  | succ k hrec0 =>
    intro v1 v2 v3 h
    have hrec := fun (_ : MW) => hrec0
    unfold fX7_spreadLong_L18 at h
    refine jw_iload_n hX dX7_spreadLong_18 rfl 3 rfl ?_
    refine jw_bipush (v := (16 : Int32)) hX dX7_spreadLong_19 (by decide) ?_
    refine jw_iload_n hX dX7_spreadLong_21 rfl 1 rfl ?_
    refine jw_imul hX dX7_spreadLong_22 ?_
    refine jw_aload_n hX dX7_spreadLong_23 rfl 0 rfl ?_
    refine jw_mgetA hX hT inX7_spreadLong 9 (by decide) lkX7_spreadLong_29 rfl dX7_spreadLong_24 ?_
    refine jw_iload_n hX dX7_spreadLong_27 rfl 1 rfl ?_
    obtain ⟨hb28, h⟩ := chk_some h
    refine jw_miald hX hT 6 9 rfl rfl hb28 dX7_spreadLong_28 ?_
    refine jw_iadd hX dX7_spreadLong_29 ?_
    refine jw_icmp_ge (tgt := 60) hX dX7_spreadLong_30 (by decide) (fun hc => ?_) (fun hc => ?_)
    · rw [if_pos hc] at h
      refine jw_sub [2] [(2, .int v2)] rfl ?_
      exact hex _ (Option.some.inj h).symm
    · rw [if_neg hc] at h
      refine jw_iload_n hX dX7_spreadLong_33 rfl 2 rfl ?_
      refine jw_aload_n hX dX7_spreadLong_34 rfl 0 rfl ?_
      refine jw_mgetA hX hT inX7_spreadLong 13 (by decide) lkX7_spreadLong_41 rfl dX7_spreadLong_35 ?_
      refine jw_iload_n hX dX7_spreadLong_38 rfl 3 rfl ?_
      obtain ⟨hb39, h⟩ := chk_some h
      refine jw_miald hX hT 10 13 rfl rfl hb39 dX7_spreadLong_39 ?_
      refine jw_iconst (v := (3 : Int32)) hX dX7_spreadLong_40 (by decide) ?_
      refine jw_aload_n hX dX7_spreadLong_41 rfl 0 rfl ?_
      refine jw_mgetA hX hT inX7_spreadLong 12 (by decide) lkX7_spreadLong_38 rfl dX7_spreadLong_42 ?_
      refine jw_iload_n hX dX7_spreadLong_45 rfl 3 rfl ?_
      obtain ⟨hb46, h⟩ := chk_some h
      refine jw_miald hX hT 9 12 rfl rfl hb46 dX7_spreadLong_46 ?_
      obtain ⟨r47, hc47, h⟩ := bP_some h
      refine jw_cSi (As := [.int (w.2 12 (v3).toNatClampNeg)]) hX jG0_ok hGX 1 (kX7_numberLong hT hc47) gX7_spreadLong_X7_numberLong rfl hdX7_numberLong ⟨by decide, by decide⟩ rfl (by decide) dX7_spreadLong_47 rfl rfl ⟨by decide, by decide⟩ ?_
      refine jw_iadd hX dX7_spreadLong_50 ?_
      refine jw_imul hX dX7_spreadLong_51 ?_
      refine jw_iadd hX dX7_spreadLong_52 ?_
      refine jw_topi (fun y53 e53 => ?_)
      replace h := bnd_some h y53 e53
      clear e53
      refine jw_istore_n hX [(2, .int y53), (0, .ref a), (1, .int v1), (3, .int v3)] dX7_spreadLong_53 rfl (by decide) rfl ?_
      refine jw_iinc (v := (v3 + (1 : Int32))) hX [(3, .int (v3 + (1 : Int32))), (2, .int y53), (0, .ref a), (1, .int v1)] dX7_spreadLong_54 3 rfl (by first | rfl | (congr 1; decide)) (by decide) rfl ?_
      refine jw_goto (tgt := 18) hX dX7_spreadLong_57 (by decide) ?_
      refine jw_sub [2, 3, 1, 0] [(0, .ref a), (1, .int v1), (2, .int y53), (3, .int (v3 + (1 : Int32)))] rfl ?_
      exact hrec w _ _ _ h
set_option maxRecDepth 100000 in
set_option maxHeartbeats 4000000 in
theorem sX7_spreadLong {X : JX} {a : Nat} {ad : Nat → Nat} {cI cZ cO cJ : ClassId} {n : Nat} {w : MW} {post : Option Value → va_W → Prop} (hX : jOK X cX7_spreadLong 4 wsX7_spreadLong RX7 rmX7_spreadLong) (hT : jT X = jTy cI cZ cO cJ) (hGX : jG X jG0) (hret : jRI X cX7_spreadLong rmX7_spreadLong post) {o : Int32} (hro : ∀ v9 : Int32, o = v9 → post (some (.int v9)) (mW a ad cI cZ w)) {v1 : Int32} (h : fX7_spreadLong n w v1 = some o) : JW X 0 0 (mW a ad cI cZ w) 0 [(0, .ref a), (1, .int v1)] [] := by
  unfold fX7_spreadLong at h
  refine jw_aload_n hX dX7_spreadLong_0 rfl 0 rfl ?_
  refine jw_mgetA hX hT inX7_spreadLong 4 (by decide) lkX7_spreadLong_13 rfl dX7_spreadLong_1 ?_
  refine jw_iload_n hX dX7_spreadLong_4 rfl 1 rfl ?_
  obtain ⟨hb5, h⟩ := chk_some h
  refine jw_mzald hX hT 1 4 rfl rfl hb5 dX7_spreadLong_5 ?_
  refine jw_if_eq (tgt := 11) hX dX7_spreadLong_6 (by decide) (fun hc => ?_) (fun hc => ?_)
  · rw [if_pos hc] at h
    refine jw_iconst (v := (-1 : Int32)) hX dX7_spreadLong_11 (by decide) ?_
    refine jw_istore_n hX [(2, .int (-1 : Int32)), (0, .ref a), (1, .int v1)] dX7_spreadLong_12 rfl (by decide) rfl ?_
    refine jw_bipush (v := (16 : Int32)) hX dX7_spreadLong_13 (by decide) ?_
    refine jw_iload_n hX dX7_spreadLong_15 rfl 2 rfl ?_
    refine jw_imul hX dX7_spreadLong_16 ?_
    refine jw_topi (fun y17 e17 => ?_)
    replace h := bnd_some h y17 e17
    clear e17
    refine jw_istore_n hX [(3, .int y17), (2, .int (-1 : Int32)), (0, .ref a), (1, .int v1)] dX7_spreadLong_17 rfl (by decide) rfl ?_
    refine jw_sub [2, 3, 1, 0] [(0, .ref a), (1, .int v1), (2, .int (-1 : Int32)), (3, .int y17)] rfl ?_
    obtain ⟨x2_18, hl18, h⟩ := bL1_some h
    refine sX7_spreadLong_L18 hX hT hGX hret (o := x2_18) (fun q0 e9 => ?_) n _ _ _ hl18
    cases e9
    refine jw_iload_n hX dX7_spreadLong_60 rfl 0 rfl ?_
    exact hret _ _ _ _ _ _ (Nat.zero_le _) (Nat.zero_le _) dX7_spreadLong_61 (hro _ (Option.some.inj h).symm)
  · rw [if_neg hc] at h
    refine jw_iconst (v := (1 : Int32)) hX dX7_spreadLong_9 (by decide) ?_
    exact hret _ _ _ _ _ _ (Nat.zero_le _) (Nat.zero_le _) dX7_spreadLong_10 (hro _ (Option.some.inj h).symm)
set_option maxRecDepth 100000 in
set_option maxHeartbeats 4000000 in
theorem kX7_spreadLong {l : Launch} {D : va_G} {tys : List (ClassId × FieldType)} {a : Nat} {ad : Nat → Nat} {cI cZ cO cJ : ClassId} {n : Nat} {w : MW} {v1 : Int32} {r : Int32} (hT : tys = jTy cI cZ cO cJ) (h : fX7_spreadLong n w v1 = some r) : CC l jG0 D tys yX7_spreadLong wsX7_spreadLong rmX7_spreadLong [.ref a, .int v1] (mW a ad cI cZ w) (fun ov w2 => ov = some (.int r) ∧ w2 = (mW a ad cI cZ w)) := by
  refine CC_of (cc := cX7_spreadLong) (maxL := 4) (ret := (some .int)) (by decide) rfl (by decide) ?_
  intro X hD hL hT0 hGX hX rI rZ rV rA
  exact sX7_spreadLong hX (hT0.trans hT) hGX (fun cells slots w9 pc lv v => rI cells slots w9 pc lv v rfl) (o := r) (fun v9 e9 => by cases e9; exact ⟨rfl, rfl⟩) h
/-! X7_spreadAt -/
abbrev rmX7_spreadAt : Room := { frames := 1, cells := 0, slots := 0, locals := 20 }
theorem hdX7_spreadAt : yX7_spreadAt.cls = RX7 ∧ yX7_spreadAt.cls ≠ "java/lang/invoke/MethodHandle" ∧ yX7_spreadAt.cls ≠ "java/lang/invoke/VarHandle" ∧ (parseMethodDescriptor yX7_spreadAt.desc).map (fun d => d.parameters.length) = some 2 := by decide +kernel
theorem inX7_spreadAt : ∀ w ∈ wsX70, w ∈ wsX7_spreadAt := fun _ h => List.mem_cons_of_mem _ (List.mem_append_right _ h)
theorem lkX7_spreadAt_13 : Cond.fieldLink RX7 13 "PostlintModel" (TX7 4).2.1 (TX7 4).2.2.1 ∈ wsX7_spreadAt := by decide +kernel
theorem lkX7_spreadAt_32 : Cond.fieldLink RX7 32 "PostlintModel" (TX7 10).2.1 (TX7 10).2.2.1 ∈ wsX7_spreadAt := by decide +kernel
theorem lkX7_spreadAt_35 : Cond.fieldLink RX7 35 "PostlintModel" (TX7 11).2.1 (TX7 11).2.2.1 ∈ wsX7_spreadAt := by decide +kernel
theorem lkX7_spreadAt_38 : Cond.fieldLink RX7 38 "PostlintModel" (TX7 12).2.1 (TX7 12).2.2.1 ∈ wsX7_spreadAt := by decide +kernel
theorem lkX7_spreadAt_41 : Cond.fieldLink RX7 41 "PostlintModel" (TX7 13).2.1 (TX7 13).2.2.1 ∈ wsX7_spreadAt := by decide +kernel
def fX7_spreadAt_L20 (n : Nat) : Nat → MW → Int32 → Int32 → Option (Int32 × Int32)
  | 0, _, _, _ => none
  | k + 1, w, v3, v4 => chk (inB v4 (mLen 13)) (chk (inB v4 (mLen 12)) (bP (fX7_numberLong (w.2 12 (v4).toNatClampNeg)) (fun r36 => (if v3 < ((w.2 13 (v4).toNatClampNeg) * ((3 : Int32) + r36)) then some (v3, v4) else chk (inB v4 (mLen 13)) (chk (inB v4 (mLen 12)) (bP (fX7_numberLong (w.2 12 (v4).toNatClampNeg)) (fun r60 => bnd ((v3 - ((w.2 13 (v4).toNatClampNeg) * ((3 : Int32) + r60)))) (fun y66 => fX7_spreadAt_L20 n k w y66 ((v4 + (1 : Int32)))))))))))
def fX7_spreadAt_L156 (n : Nat) : Nat → MW → Int32 → Int32 → Int32 → Option (Int32)
  | 0, _, _, _, _ => none
  | k + 1, w, v3, v6, v7 => (if v7 ≤ (v3 - (2 : Int32)) then some (v6) else chk (nz (10 : Int32)) (bnd ((v6 / (10 : Int32))) (fun y169 => fX7_spreadAt_L156 n k w v3 y169 ((v7 + (-1 : Int32))))))
def fX7_spreadAt (n : Nat) (w : MW) (v1 v2 : Int32) : Option Int32 := chk (inB v1 (mLen 4)) ((if (w.2 4 (v1).toNatClampNeg) = 0 then bnd (((16 : Int32) * v1)) (fun y18 => bL2 (fX7_spreadAt_L20 n n w v2 y18) (fun x3_20 x4_20 => chk (inB x4_20 (mLen 12)) (bP (fX7_numberLong (w.2 12 (x4_20).toNatClampNeg)) (fun r80 => chk (nz ((3 : Int32) + r80)) (bnd ((x3_20 - x3_20 / ((3 : Int32) + r80) * ((3 : Int32) + r80))) (fun y91 => (if ¬ y91 = 0 then (if ¬ y91 = (1 : Int32) then (if ¬ y91 = ((2 : Int32) + r80) then chk (inB x4_20 (mLen 12)) (bnd ((w.2 12 (x4_20).toNatClampNeg)) (fun y148 => bnd ((r80 - (1 : Int32))) (fun y154 => bL1 (fX7_spreadAt_L156 n n w y91 y148 y154) (fun x6_156 => chk (nz (10 : Int32)) (some ((48 : Int32) + (x6_156 - x6_156 / (10 : Int32) * (10 : Int32)))))))) else some (32 : Int32)) else chk (inB x4_20 (mLen 11)) ((if (w.2 11 (x4_20).toNatClampNeg) = 0 then some (43 : Int32) else some (45 : Int32)))) else chk (inB x4_20 (mLen 10)) (some ((97 : Int32) + (w.2 10 (x4_20).toNatClampNeg)))))))))) else some (45 : Int32)))
set_option maxRecDepth 100000 in
set_option maxHeartbeats 4000000 in
theorem sX7_spreadAt_L20 {X : JX} {a : Nat} {ad : Nat → Nat} {cI cZ cO cJ : ClassId} {n : Nat} {w : MW} {post : Option Value → va_W → Prop} (hX : jOK X cX7_spreadAt 8 wsX7_spreadAt RX7 rmX7_spreadAt) (hT : jT X = jTy cI cZ cO cJ) (hGX : jG X jG0) (hret : jRI X cX7_spreadAt rmX7_spreadAt post) {o : (Int32 × Int32)} (hex : ∀ (x3 x4 : Int32), o = (x3, x4) → JW X 0 0 (mW a ad cI cZ w) 73 [(0, .ref a), (3, .int x3), (4, .int x4)] [])  : ∀ (k : Nat) (v3 v4 : Int32), fX7_spreadAt_L20 n k w v3 v4 = some o → JW X 0 0 (mW a ad cI cZ w) 20 [(0, .ref a), (3, .int v3), (4, .int v4)] [] := by
  intro k
  induction k with
  | zero => intro v3 v4 h; cases h
  | succ k hrec0 =>
    intro v3 v4 h
    have hrec := fun (_ : MW) => hrec0
    unfold fX7_spreadAt_L20 at h
    refine jw_iload_n hX dX7_spreadAt_20 rfl 1 rfl ?_
    refine jw_aload_n hX dX7_spreadAt_21 rfl 0 rfl ?_
    refine jw_mgetA hX hT inX7_spreadAt 13 (by decide) lkX7_spreadAt_41 rfl dX7_spreadAt_22 ?_
    refine jw_iload hX dX7_spreadAt_25 2 rfl ?_
    obtain ⟨hb27, h⟩ := chk_some h
    refine jw_miald hX hT 10 13 rfl rfl hb27 dX7_spreadAt_27 ?_
    refine jw_iconst (v := (3 : Int32)) hX dX7_spreadAt_28 (by decide) ?_
    refine jw_aload_n hX dX7_spreadAt_29 rfl 0 rfl ?_
    refine jw_mgetA hX hT inX7_spreadAt 12 (by decide) lkX7_spreadAt_38 rfl dX7_spreadAt_30 ?_
    refine jw_iload hX dX7_spreadAt_33 2 rfl ?_
    obtain ⟨hb35, h⟩ := chk_some h
    refine jw_miald hX hT 9 12 rfl rfl hb35 dX7_spreadAt_35 ?_
    obtain ⟨r36, hc36, h⟩ := bP_some h
    refine jw_cSi (As := [.int (w.2 12 (v4).toNatClampNeg)]) hX jG0_ok hGX 1 (kX7_numberLong hT hc36) gX7_spreadAt_X7_numberLong rfl hdX7_numberLong ⟨by decide, by decide⟩ rfl (by decide) dX7_spreadAt_36 rfl rfl ⟨by decide, by decide⟩ ?_
    refine jw_iadd hX dX7_spreadAt_39 ?_
    refine jw_imul hX dX7_spreadAt_40 ?_
    refine jw_icmp_lt (tgt := 73) hX dX7_spreadAt_41 (by decide) (fun hc => ?_) (fun hc => ?_)
    · rw [if_pos hc] at h
      exact hex _ _ (Option.some.inj h).symm
    · rw [if_neg hc] at h
      refine jw_iload_n hX dX7_spreadAt_44 rfl 1 rfl ?_
      refine jw_aload_n hX dX7_spreadAt_45 rfl 0 rfl ?_
      refine jw_mgetA hX hT inX7_spreadAt 13 (by decide) lkX7_spreadAt_41 rfl dX7_spreadAt_46 ?_
      refine jw_iload hX dX7_spreadAt_49 2 rfl ?_
      obtain ⟨hb51, h⟩ := chk_some h
      refine jw_miald hX hT 10 13 rfl rfl hb51 dX7_spreadAt_51 ?_
      refine jw_iconst (v := (3 : Int32)) hX dX7_spreadAt_52 (by decide) ?_
      refine jw_aload_n hX dX7_spreadAt_53 rfl 0 rfl ?_
      refine jw_mgetA hX hT inX7_spreadAt 12 (by decide) lkX7_spreadAt_38 rfl dX7_spreadAt_54 ?_
      refine jw_iload hX dX7_spreadAt_57 2 rfl ?_
      obtain ⟨hb59, h⟩ := chk_some h
      refine jw_miald hX hT 9 12 rfl rfl hb59 dX7_spreadAt_59 ?_
      obtain ⟨r60, hc60, h⟩ := bP_some h
      refine jw_cSi (As := [.int (w.2 12 (v4).toNatClampNeg)]) hX jG0_ok hGX 1 (kX7_numberLong hT hc60) gX7_spreadAt_X7_numberLong rfl hdX7_numberLong ⟨by decide, by decide⟩ rfl (by decide) dX7_spreadAt_60 rfl rfl ⟨by decide, by decide⟩ ?_
      refine jw_iadd hX dX7_spreadAt_63 ?_
      refine jw_imul hX dX7_spreadAt_64 ?_
      refine jw_isub hX dX7_spreadAt_65 ?_
      refine jw_topi (fun y66 e66 => ?_)
      replace h := bnd_some h y66 e66
      clear e66
      refine jw_istore_n hX [(3, .int y66), (0, .ref a), (4, .int v4)] dX7_spreadAt_66 rfl (by decide) rfl ?_
      refine jw_iinc (v := (v4 + (1 : Int32))) hX [(4, .int (v4 + (1 : Int32))), (3, .int y66), (0, .ref a)] dX7_spreadAt_67 2 rfl (by first | rfl | (congr 1; decide)) (by decide) rfl ?_
      refine jw_goto (tgt := 20) hX dX7_spreadAt_70 (by decide) ?_
      refine jw_sub [2, 1, 0] [(0, .ref a), (3, .int y66), (4, .int (v4 + (1 : Int32)))] rfl ?_
      exact hrec w _ _ h
set_option maxRecDepth 100000 in
set_option maxHeartbeats 4000000 in
theorem sX7_spreadAt_L156 {X : JX} {a : Nat} {ad : Nat → Nat} {cI cZ cO cJ : ClassId} {n : Nat} {w : MW} {post : Option Value → va_W → Prop} (hX : jOK X cX7_spreadAt 8 wsX7_spreadAt RX7 rmX7_spreadAt) (hT : jT X = jTy cI cZ cO cJ) (hGX : jG X jG0) (hret : jRI X cX7_spreadAt rmX7_spreadAt post) {o : (Int32)} (hex : ∀ (x6 : Int32), o = x6 → JW X 0 0 (mW a ad cI cZ w) 177 [(6, .int x6)] [])  : ∀ (k : Nat) (v3 v6 v7 : Int32), fX7_spreadAt_L156 n k w v3 v6 v7 = some o → JW X 0 0 (mW a ad cI cZ w) 156 [(3, .int v3), (6, .int v6), (7, .int v7)] [] := by
  intro k
  induction k with
  | zero => intro v3 v6 v7 h; cases h
  | succ k hrec0 =>
    intro v3 v6 v7 h
    have hrec := fun (_ : MW) => hrec0
    unfold fX7_spreadAt_L156 at h
    refine jw_iload hX dX7_spreadAt_156 2 rfl ?_
    refine jw_iload_n hX dX7_spreadAt_158 rfl 0 rfl ?_
    refine jw_iconst (v := (2 : Int32)) hX dX7_spreadAt_159 (by decide) ?_
    refine jw_isub hX dX7_spreadAt_160 ?_
    refine jw_icmp_le (tgt := 177) hX dX7_spreadAt_161 (by decide) (fun hc => ?_) (fun hc => ?_)
    · rw [if_pos hc] at h
      refine jw_sub [1] [(6, .int v6)] rfl ?_
      exact hex _ (Option.some.inj h).symm
    · rw [if_neg hc] at h
      refine jw_iload hX dX7_spreadAt_164 1 rfl ?_
      refine jw_bipush (v := (10 : Int32)) hX dX7_spreadAt_166 (by decide) ?_
      obtain ⟨hz168, h⟩ := chk_some h
      refine jw_idiv hX dX7_spreadAt_168 (nz_ne hz168) ?_
      refine jw_topi (fun y169 e169 => ?_)
      replace h := bnd_some h y169 e169
      clear e169
      refine jw_istore hX [(6, .int y169), (3, .int v3), (7, .int v7)] dX7_spreadAt_169 (by decide) rfl ?_
      refine jw_iinc (v := (v7 + (-1 : Int32))) hX [(7, .int (v7 + (-1 : Int32))), (6, .int y169), (3, .int v3)] dX7_spreadAt_171 2 rfl (by first | rfl | (congr 1; decide)) (by decide) rfl ?_
      refine jw_goto (tgt := 156) hX dX7_spreadAt_174 (by decide) ?_
      refine jw_sub [2, 1, 0] [(3, .int v3), (6, .int y169), (7, .int (v7 + (-1 : Int32)))] rfl ?_
      exact hrec w _ _ _ h
set_option maxRecDepth 100000 in
set_option maxHeartbeats 4000000 in
theorem sX7_spreadAt {X : JX} {a : Nat} {ad : Nat → Nat} {cI cZ cO cJ : ClassId} {n : Nat} {w : MW} {post : Option Value → va_W → Prop} (hX : jOK X cX7_spreadAt 8 wsX7_spreadAt RX7 rmX7_spreadAt) (hT : jT X = jTy cI cZ cO cJ) (hGX : jG X jG0) (hret : jRI X cX7_spreadAt rmX7_spreadAt post) {o : Int32} (hro : ∀ v9 : Int32, o = v9 → post (some (.int v9)) (mW a ad cI cZ w)) {v1 v2 : Int32} (h : fX7_spreadAt n w v1 v2 = some o) : JW X 0 0 (mW a ad cI cZ w) 0 [(0, .ref a), (1, .int v1), (2, .int v2)] [] := by
  unfold fX7_spreadAt at h
  refine jw_aload_n hX dX7_spreadAt_0 rfl 0 rfl ?_
  refine jw_mgetA hX hT inX7_spreadAt 4 (by decide) lkX7_spreadAt_13 rfl dX7_spreadAt_1 ?_
  refine jw_iload_n hX dX7_spreadAt_4 rfl 1 rfl ?_
  obtain ⟨hb5, h⟩ := chk_some h
  refine jw_mzald hX hT 1 4 rfl rfl hb5 dX7_spreadAt_5 ?_
  refine jw_if_eq (tgt := 12) hX dX7_spreadAt_6 (by decide) (fun hc => ?_) (fun hc => ?_)
  · rw [if_pos hc] at h
    refine jw_iload_n hX dX7_spreadAt_12 rfl 2 rfl ?_
    refine jw_istore_n hX [(3, .int v2), (0, .ref a), (1, .int v1), (2, .int v2)] dX7_spreadAt_13 rfl (by decide) rfl ?_
    refine jw_bipush (v := (16 : Int32)) hX dX7_spreadAt_14 (by decide) ?_
    refine jw_iload_n hX dX7_spreadAt_16 rfl 2 rfl ?_
    refine jw_imul hX dX7_spreadAt_17 ?_
    refine jw_topi (fun y18 e18 => ?_)
    replace h := bnd_some h y18 e18
    clear e18
    refine jw_istore hX [(4, .int y18), (3, .int v2), (0, .ref a), (1, .int v1), (2, .int v2)] dX7_spreadAt_18 (by decide) rfl ?_
    refine jw_sub [2, 1, 0] [(0, .ref a), (3, .int v2), (4, .int y18)] rfl ?_
    obtain ⟨x3_20, x4_20, hl20, h⟩ := bL2_some h
    refine sX7_spreadAt_L20 hX hT hGX hret (o := (x3_20, x4_20)) (fun q0 q1 e9 => ?_) n _ _ hl20
    cases e9
    refine jw_aload_n hX dX7_spreadAt_73 rfl 0 rfl ?_
    refine jw_mgetA hX hT inX7_spreadAt 12 (by decide) lkX7_spreadAt_38 rfl dX7_spreadAt_74 ?_
    refine jw_iload hX dX7_spreadAt_77 2 rfl ?_
    obtain ⟨hb79, h⟩ := chk_some h
    refine jw_miald hX hT 9 12 rfl rfl hb79 dX7_spreadAt_79 ?_
    obtain ⟨r80, hc80, h⟩ := bP_some h
    refine jw_cSi (As := [.int (w.2 12 (x4_20).toNatClampNeg)]) hX jG0_ok hGX 1 (kX7_numberLong hT hc80) gX7_spreadAt_X7_numberLong rfl hdX7_numberLong ⟨by decide, by decide⟩ rfl (by decide) dX7_spreadAt_80 rfl rfl ⟨by decide, by decide⟩ ?_
    refine jw_istore hX [(5, .int r80), (0, .ref a), (3, .int x3_20), (4, .int x4_20)] dX7_spreadAt_83 (by decide) rfl ?_
    refine jw_iload_n hX dX7_spreadAt_85 rfl 2 rfl ?_
    refine jw_iconst (v := (3 : Int32)) hX dX7_spreadAt_86 (by decide) ?_
    refine jw_iload hX dX7_spreadAt_87 0 rfl ?_
    refine jw_iadd hX dX7_spreadAt_89 ?_
    obtain ⟨hz90, h⟩ := chk_some h
    refine jw_irem hX dX7_spreadAt_90 (nz_ne hz90) ?_
    refine jw_topi (fun y91 e91 => ?_)
    replace h := bnd_some h y91 e91
    clear e91
    refine jw_istore_n hX [(3, .int y91), (5, .int r80), (0, .ref a), (4, .int x4_20)] dX7_spreadAt_91 rfl (by decide) rfl ?_
    refine jw_iload_n hX dX7_spreadAt_92 rfl 0 rfl ?_
    refine jw_if_ne (tgt := 107) hX dX7_spreadAt_93 (by decide) (fun hc => ?_) (fun hc => ?_)
    · rw [if_pos hc] at h
      refine jw_iload_n hX dX7_spreadAt_107 rfl 0 rfl ?_
      refine jw_iconst (v := (1 : Int32)) hX dX7_spreadAt_108 (by decide) ?_
      refine jw_icmp_ne (tgt := 130) hX dX7_spreadAt_109 (by decide) (fun hc => ?_) (fun hc => ?_)
      · rw [if_pos hc] at h
        refine jw_iload_n hX dX7_spreadAt_130 rfl 0 rfl ?_
        refine jw_iconst (v := (2 : Int32)) hX dX7_spreadAt_131 (by decide) ?_
        refine jw_iload hX dX7_spreadAt_132 1 rfl ?_
        refine jw_iadd hX dX7_spreadAt_134 ?_
        refine jw_icmp_ne (tgt := 141) hX dX7_spreadAt_135 (by decide) (fun hc => ?_) (fun hc => ?_)
        · rw [if_pos hc] at h
          refine jw_aload_n hX dX7_spreadAt_141 rfl 2 rfl ?_
          refine jw_mgetA hX hT inX7_spreadAt 12 (by decide) lkX7_spreadAt_38 rfl dX7_spreadAt_142 ?_
          refine jw_iload hX dX7_spreadAt_145 3 rfl ?_
          obtain ⟨hb147, h⟩ := chk_some h
          refine jw_miald hX hT 9 12 rfl rfl hb147 dX7_spreadAt_147 ?_
          refine jw_topi (fun y148 e148 => ?_)
          replace h := bnd_some h y148 e148
          clear e148
          refine jw_istore hX [(6, .int y148), (3, .int y91), (5, .int r80), (0, .ref a), (4, .int x4_20)] dX7_spreadAt_148 (by decide) rfl ?_
          refine jw_iload hX dX7_spreadAt_150 2 rfl ?_
          refine jw_iconst (v := (1 : Int32)) hX dX7_spreadAt_152 (by decide) ?_
          refine jw_isub hX dX7_spreadAt_153 ?_
          refine jw_topi (fun y154 e154 => ?_)
          replace h := bnd_some h y154 e154
          clear e154
          refine jw_istore hX [(7, .int y154), (6, .int y148), (3, .int y91), (5, .int r80), (0, .ref a), (4, .int x4_20)] dX7_spreadAt_154 (by decide) rfl ?_
          refine jw_sub [2, 1, 0] [(3, .int y91), (6, .int y148), (7, .int y154)] rfl ?_
          obtain ⟨x6_156, hl156, h⟩ := bL1_some h
          refine sX7_spreadAt_L156 hX hT hGX hret (o := x6_156) (fun q0 e9 => ?_) n _ _ _ hl156
          cases e9
          refine jw_bipush (v := (48 : Int32)) hX dX7_spreadAt_177 (by decide) ?_
          refine jw_iload hX dX7_spreadAt_179 0 rfl ?_
          refine jw_bipush (v := (10 : Int32)) hX dX7_spreadAt_181 (by decide) ?_
          obtain ⟨hz183, h⟩ := chk_some h
          refine jw_irem hX dX7_spreadAt_183 (nz_ne hz183) ?_
          refine jw_iadd hX dX7_spreadAt_184 ?_
          exact hret _ _ _ _ _ _ (Nat.zero_le _) (Nat.zero_le _) dX7_spreadAt_185 (hro _ (Option.some.inj h).symm)
        · rw [if_neg hc] at h
          refine jw_bipush (v := (32 : Int32)) hX dX7_spreadAt_138 (by decide) ?_
          exact hret _ _ _ _ _ _ (Nat.zero_le _) (Nat.zero_le _) dX7_spreadAt_140 (hro _ (Option.some.inj h).symm)
      · rw [if_neg hc] at h
        refine jw_aload_n hX dX7_spreadAt_112 rfl 2 rfl ?_
        refine jw_mgetA hX hT inX7_spreadAt 11 (by decide) lkX7_spreadAt_35 rfl dX7_spreadAt_113 ?_
        refine jw_iload hX dX7_spreadAt_116 3 rfl ?_
        obtain ⟨hb118, h⟩ := chk_some h
        refine jw_mzald hX hT 8 11 rfl rfl hb118 dX7_spreadAt_118 ?_
        refine jw_if_eq (tgt := 127) hX dX7_spreadAt_119 (by decide) (fun hc => ?_) (fun hc => ?_)
        · rw [if_pos hc] at h
          refine jw_bipush (v := (43 : Int32)) hX dX7_spreadAt_127 (by decide) ?_
          exact hret _ _ _ _ _ _ (Nat.zero_le _) (Nat.zero_le _) dX7_spreadAt_129 (hro _ (Option.some.inj h).symm)
        · rw [if_neg hc] at h
          refine jw_bipush (v := (45 : Int32)) hX dX7_spreadAt_122 (by decide) ?_
          refine jw_goto (tgt := 129) hX dX7_spreadAt_124 (by decide) ?_
          exact hret _ _ _ _ _ _ (Nat.zero_le _) (Nat.zero_le _) dX7_spreadAt_129 (hro _ (Option.some.inj h).symm)
    · rw [if_neg hc] at h
      refine jw_bipush (v := (97 : Int32)) hX dX7_spreadAt_96 (by decide) ?_
      refine jw_aload_n hX dX7_spreadAt_98 rfl 2 rfl ?_
      refine jw_mgetA hX hT inX7_spreadAt 10 (by decide) lkX7_spreadAt_32 rfl dX7_spreadAt_99 ?_
      refine jw_iload hX dX7_spreadAt_102 3 rfl ?_
      obtain ⟨hb104, h⟩ := chk_some h
      refine jw_miald hX hT 7 10 rfl rfl hb104 dX7_spreadAt_104 ?_
      refine jw_iadd hX dX7_spreadAt_105 ?_
      exact hret _ _ _ _ _ _ (Nat.zero_le _) (Nat.zero_le _) dX7_spreadAt_106 (hro _ (Option.some.inj h).symm)
  · rw [if_neg hc] at h
    refine jw_bipush (v := (45 : Int32)) hX dX7_spreadAt_9 (by decide) ?_
    exact hret _ _ _ _ _ _ (Nat.zero_le _) (Nat.zero_le _) dX7_spreadAt_11 (hro _ (Option.some.inj h).symm)
set_option maxRecDepth 100000 in
set_option maxHeartbeats 4000000 in
theorem kX7_spreadAt {l : Launch} {D : va_G} {tys : List (ClassId × FieldType)} {a : Nat} {ad : Nat → Nat} {cI cZ cO cJ : ClassId} {n : Nat} {w : MW} {v1 v2 : Int32} {r : Int32} (hT : tys = jTy cI cZ cO cJ) (h : fX7_spreadAt n w v1 v2 = some r) : CC l jG0 D tys yX7_spreadAt wsX7_spreadAt rmX7_spreadAt [.ref a, .int v1, .int v2] (mW a ad cI cZ w) (fun ov w2 => ov = some (.int r) ∧ w2 = (mW a ad cI cZ w)) := by
  refine CC_of (cc := cX7_spreadAt) (maxL := 8) (ret := (some .int)) (by decide) rfl (by decide) ?_
  intro X hD hL hT0 hGX hX rI rZ rV rA
  exact sX7_spreadAt hX (hT0.trans hT) hGX (fun cells slots w9 pc lv v => rI cells slots w9 pc lv v rfl) (o := r) (fun v9 e9 => by cases e9; exact ⟨rfl, rfl⟩) h
/-! X7_longOf -/
abbrev rmX7_longOf : Room := { frames := 2, cells := 0, slots := 0, locals := 43 }
theorem hdX7_longOf : yX7_longOf.cls = RX7 ∧ yX7_longOf.cls ≠ "java/lang/invoke/MethodHandle" ∧ yX7_longOf.cls ≠ "java/lang/invoke/VarHandle" ∧ (parseMethodDescriptor yX7_longOf.desc).map (fun d => d.parameters.length) = some 2 := by decide +kernel
theorem inX7_longOf : ∀ w ∈ wsX70, w ∈ wsX7_longOf := fun _ h => List.mem_cons_of_mem _ (List.mem_append_right _ h)
theorem lkX7_longOf_17 : Cond.fieldLink RX7 17 "PostlintModel" (TX7 5).2.1 (TX7 5).2.2.1 ∈ wsX7_longOf := by decide +kernel
theorem lkX7_longOf_23 : Cond.fieldLink RX7 23 "PostlintModel" (TX7 7).2.1 (TX7 7).2.2.1 ∈ wsX7_longOf := by decide +kernel
def fX7_longOf (n : Nat) (w : MW) (v1 v2 : Int32) : Option Int32 := (if ¬ v2 = 0 then (if ¬ v2 = (1 : Int32) then bP (fX7_spreadLong n w v1) (fun r29 => some r29) else chk (inB v1 (mLen 7)) (some (w.2 7 (v1).toNatClampNeg))) else chk (inB v1 (mLen 5)) (some (w.2 5 (v1).toNatClampNeg)))
set_option maxRecDepth 100000 in
set_option maxHeartbeats 4000000 in
theorem sX7_longOf {X : JX} {a : Nat} {ad : Nat → Nat} {cI cZ cO cJ : ClassId} {n : Nat} {w : MW} {post : Option Value → va_W → Prop} (hX : jOK X cX7_longOf 3 wsX7_longOf RX7 rmX7_longOf) (hT : jT X = jTy cI cZ cO cJ) (hGX : jG X jG0) (hret : jRI X cX7_longOf rmX7_longOf post) {o : Int32} (hro : ∀ v9 : Int32, o = v9 → post (some (.int v9)) (mW a ad cI cZ w)) {v1 v2 : Int32} (h : fX7_longOf n w v1 v2 = some o) : JW X 0 0 (mW a ad cI cZ w) 0 [(0, .ref a), (1, .int v1), (2, .int v2)] [] := by
  unfold fX7_longOf at h
  refine jw_iload_n hX dX7_longOf_0 rfl 2 rfl ?_
  refine jw_if_ne (tgt := 13) hX dX7_longOf_1 (by decide) (fun hc => ?_) (fun hc => ?_)
  · rw [if_pos hc] at h
    refine jw_iload_n hX dX7_longOf_13 rfl 2 rfl ?_
    refine jw_iconst (v := (1 : Int32)) hX dX7_longOf_14 (by decide) ?_
    refine jw_icmp_ne (tgt := 27) hX dX7_longOf_15 (by decide) (fun hc => ?_) (fun hc => ?_)
    · rw [if_pos hc] at h
      refine jw_aload_n hX dX7_longOf_27 rfl 0 rfl ?_
      refine jw_iload_n hX dX7_longOf_28 rfl 1 rfl ?_
      obtain ⟨r29, hc29, h⟩ := bP_some h
      refine jw_cVi (As := [.int v1]) hX jG0_ok hGX 1 (kX7_spreadLong hT hc29) gX7_longOf_X7_spreadLong rfl hdX7_spreadLong ⟨by decide, by decide⟩ 0 7 rfl rfl rfl (by decide) dX7_longOf_29 rfl rfl ⟨by decide, by decide⟩ ?_
      exact hret _ _ _ _ _ _ (Nat.zero_le _) (Nat.zero_le _) dX7_longOf_32 (hro _ (Option.some.inj h).symm)
    · rw [if_neg hc] at h
      refine jw_aload_n hX dX7_longOf_18 rfl 0 rfl ?_
      refine jw_mgetA hX hT inX7_longOf 7 (by decide) lkX7_longOf_23 rfl dX7_longOf_19 ?_
      refine jw_iload_n hX dX7_longOf_22 rfl 1 rfl ?_
      obtain ⟨hb23, h⟩ := chk_some h
      refine jw_miald hX hT 4 7 rfl rfl hb23 dX7_longOf_23 ?_
      refine jw_goto (tgt := 32) hX dX7_longOf_24 (by decide) ?_
      exact hret _ _ _ _ _ _ (Nat.zero_le _) (Nat.zero_le _) dX7_longOf_32 (hro _ (Option.some.inj h).symm)
  · rw [if_neg hc] at h
    refine jw_aload_n hX dX7_longOf_4 rfl 0 rfl ?_
    refine jw_mgetA hX hT inX7_longOf 5 (by decide) lkX7_longOf_17 rfl dX7_longOf_5 ?_
    refine jw_iload_n hX dX7_longOf_8 rfl 1 rfl ?_
    obtain ⟨hb9, h⟩ := chk_some h
    refine jw_miald hX hT 2 5 rfl rfl hb9 dX7_longOf_9 ?_
    refine jw_goto (tgt := 32) hX dX7_longOf_10 (by decide) ?_
    exact hret _ _ _ _ _ _ (Nat.zero_le _) (Nat.zero_le _) dX7_longOf_32 (hro _ (Option.some.inj h).symm)
set_option maxRecDepth 100000 in
set_option maxHeartbeats 4000000 in
theorem kX7_longOf {l : Launch} {D : va_G} {tys : List (ClassId × FieldType)} {a : Nat} {ad : Nat → Nat} {cI cZ cO cJ : ClassId} {n : Nat} {w : MW} {v1 v2 : Int32} {r : Int32} (hT : tys = jTy cI cZ cO cJ) (h : fX7_longOf n w v1 v2 = some r) : CC l jG0 D tys yX7_longOf wsX7_longOf rmX7_longOf [.ref a, .int v1, .int v2] (mW a ad cI cZ w) (fun ov w2 => ov = some (.int r) ∧ w2 = (mW a ad cI cZ w)) := by
  refine CC_of (cc := cX7_longOf) (maxL := 3) (ret := (some .int)) (by decide) rfl (by decide) ?_
  intro X hD hL hT0 hGX hX rI rZ rV rA
  exact sX7_longOf hX (hT0.trans hT) hGX (fun cells slots w9 pc lv v => rI cells slots w9 pc lv v rfl) (o := r) (fun v9 e9 => by cases e9; exact ⟨rfl, rfl⟩) h
