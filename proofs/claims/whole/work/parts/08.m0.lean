/-! X7_thrown -/
abbrev rmX7_thrown : Room := { frames := 0, cells := 0, slots := 0, locals := 0 }
theorem hdX7_thrown : yX7_thrown.cls = RX7 ∧ yX7_thrown.cls ≠ "java/lang/invoke/MethodHandle" ∧ yX7_thrown.cls ≠ "java/lang/invoke/VarHandle" ∧ (parseMethodDescriptor yX7_thrown.desc).map (fun d => d.parameters.length) = some 0 := by decide +kernel
theorem inX7_thrown : ∀ w ∈ wsX70, w ∈ wsX7_thrown := fun _ h => List.mem_cons_of_mem _ (List.mem_append_right _ h)
theorem lkX7_thrown_122 : Cond.fieldLink RX7 122 "PostlintModel" (TX7 0).2.1 (TX7 0).2.2.1 ∈ wsX7_thrown := by decide +kernel
def fX7_thrown (w : MW) : Option Int32 := some (w.1 0)
set_option maxRecDepth 100000 in
set_option maxHeartbeats 4000000 in
theorem sX7_thrown {X : JX} {a : Nat} {ad : Nat → Nat} {cI cZ cO cJ : ClassId} {w : MW} {post : Option Value → va_W → Prop} (hX : jOK X cX7_thrown 1 wsX7_thrown RX7 rmX7_thrown) (hT : jT X = jTy cI cZ cO cJ) (hGX : jG X jG0) (hret : jRI X cX7_thrown rmX7_thrown post) {o : Int32} (hro : ∀ v9 : Int32, o = v9 → post (some (.int v9)) (mW a ad cI cZ w)) (h : fX7_thrown w  = some o) : JW X 0 0 (mW a ad cI cZ w) 0 [(0, .ref a)] [] := by
  unfold fX7_thrown at h
  refine jw_aload_n hX dX7_thrown_0 rfl 0 rfl ?_
  refine jw_mgetI hX hT inX7_thrown 0 (by decide) lkX7_thrown_122 rfl dX7_thrown_1 ?_
  exact hret _ _ _ _ _ _ (Nat.zero_le _) (Nat.zero_le _) dX7_thrown_4 (hro _ (Option.some.inj h).symm)
set_option maxRecDepth 100000 in
set_option maxHeartbeats 4000000 in
theorem kX7_thrown {l : Launch} {D : va_G} {tys : List (ClassId × FieldType)} {a : Nat} {ad : Nat → Nat} {cI cZ cO cJ : ClassId} {w : MW}  {r : Int32} (hT : tys = jTy cI cZ cO cJ) (h : fX7_thrown w  = some r) : CC l jG0 D tys yX7_thrown wsX7_thrown rmX7_thrown [.ref a] (mW a ad cI cZ w) (fun ov w2 => ov = some (.int r) ∧ w2 = (mW a ad cI cZ w)) := by
  refine CC_of (cc := cX7_thrown) (maxL := 1) (ret := (some .int)) (by decide) rfl (by decide) ?_
  intro X hD hL hT0 hGX hX rI rZ rV rA
  exact sX7_thrown hX (hT0.trans hT) hGX (fun cells slots w9 pc lv v => rI cells slots w9 pc lv v rfl) (o := r) (fun v9 e9 => by cases e9; exact ⟨rfl, rfl⟩) h
/-! X7_isOf -/
abbrev rmX7_isOf : Room := { frames := 0, cells := 0, slots := 0, locals := 0 }
theorem hdX7_isOf : yX7_isOf.cls = RX7 ∧ yX7_isOf.cls ≠ "java/lang/invoke/MethodHandle" ∧ yX7_isOf.cls ≠ "java/lang/invoke/VarHandle" ∧ (parseMethodDescriptor yX7_isOf.desc).map (fun d => d.parameters.length) = some 1 := by decide +kernel
theorem inX7_isOf : ∀ w ∈ wsX70, w ∈ wsX7_isOf := fun _ h => List.mem_cons_of_mem _ (List.mem_append_right _ h)
theorem lkX7_isOf_122 : Cond.fieldLink RX7 122 "PostlintModel" (TX7 0).2.1 (TX7 0).2.2.1 ∈ wsX7_isOf := by decide +kernel
def fX7_isOf (w : MW) (v1 : Int32) : Option (Int32 × MW) := bnd (mS w 0 v1) (fun w2 => (if ¬ v1 = 0 then chk (b01 (0 : Int32)) (some ((0 : Int32), w2)) else chk (b01 (1 : Int32)) (some ((1 : Int32), w2))))
set_option maxRecDepth 100000 in
set_option maxHeartbeats 4000000 in
theorem sX7_isOf {X : JX} {a : Nat} {ad : Nat → Nat} {cI cZ cO cJ : ClassId} {post : Option Value → va_W → Prop} (hX : jOK X cX7_isOf 2 wsX7_isOf RX7 rmX7_isOf) (hT : jT X = jTy cI cZ cO cJ) (hGX : jG X jG0) (hret : jRZ X cX7_isOf rmX7_isOf post) {o : (Int32 × MW)} (hro : ∀ (v9 : Int32) (w9 : MW), o = (v9, w9) → post (some (.int v9)) (mW a ad cI cZ w9)) {w : MW} {v1 : Int32} (h : fX7_isOf w v1 = some o) : JW X 0 0 (mW a ad cI cZ w) 0 [(0, .ref a), (1, .int v1)] [] := by
  unfold fX7_isOf at h
  refine jw_aload_n hX dX7_isOf_0 rfl 0 rfl ?_
  refine jw_iload_n hX dX7_isOf_1 rfl 1 rfl ?_
  refine jw_mputI hX hT inX7_isOf 0 (by decide) lkX7_isOf_122 rfl dX7_isOf_2 (fun w2 e2 => ?_)
  replace h := bnd_some h w2 e2
  clear e2
  refine jw_iload_n hX dX7_isOf_5 rfl 1 rfl ?_
  refine jw_if_ne (tgt := 13) hX dX7_isOf_6 (by decide) (fun hc => ?_) (fun hc => ?_)
  · rw [if_pos hc] at h
    refine jw_iconst (v := (0 : Int32)) hX dX7_isOf_13 (by decide) ?_
    obtain ⟨hz14, h⟩ := chk_some h
    exact hret _ _ _ _ _ _ (b01_or hz14) (Nat.zero_le _) (Nat.zero_le _) dX7_isOf_14 (hro _ _ (Option.some.inj h).symm)
  · rw [if_neg hc] at h
    refine jw_iconst (v := (1 : Int32)) hX dX7_isOf_9 (by decide) ?_
    refine jw_goto (tgt := 14) hX dX7_isOf_10 (by decide) ?_
    obtain ⟨hz14, h⟩ := chk_some h
    exact hret _ _ _ _ _ _ (b01_or hz14) (Nat.zero_le _) (Nat.zero_le _) dX7_isOf_14 (hro _ _ (Option.some.inj h).symm)
set_option maxRecDepth 100000 in
set_option maxHeartbeats 4000000 in
theorem kX7_isOf {l : Launch} {D : va_G} {tys : List (ClassId × FieldType)} {a : Nat} {ad : Nat → Nat} {cI cZ cO cJ : ClassId} {w : MW} {v1 : Int32} {r : Int32} {w1 : MW} (hT : tys = jTy cI cZ cO cJ) (h : fX7_isOf w v1 = some (r, w1)) : CC l jG0 D tys yX7_isOf wsX7_isOf rmX7_isOf [.ref a, .int v1] (mW a ad cI cZ w) (fun ov w2 => ov = some (.int r) ∧ w2 = (mW a ad cI cZ w1)) := by
  refine CC_of (cc := cX7_isOf) (maxL := 2) (ret := (some .boolean)) (by decide) rfl (by decide) ?_
  intro X hD hL hT0 hGX hX rI rZ rV rA
  exact sX7_isOf hX (hT0.trans hT) hGX (fun cells slots w9 pc lv v => rZ cells slots w9 pc lv v rfl) (o := (r, w1)) (fun v9 w9 e9 => by cases e9; exact ⟨rfl, rfl⟩) h
/-! X7_isIn -/
abbrev rmX7_isIn : Room := { frames := 0, cells := 0, slots := 0, locals := 0 }
theorem hdX7_isIn : yX7_isIn.cls ≠ "java/lang/invoke/MethodHandle" ∧ yX7_isIn.cls ≠ "java/lang/invoke/VarHandle" ∧ (parseMethodDescriptor yX7_isIn.desc).map (fun d => d.parameters.length) = some 3 := by decide +kernel
def fX7_isIn (v0 v1 v2 : Int32) : Option Int32 := (if v0 < v1 then chk (b01 (0 : Int32)) (some (0 : Int32)) else (if v2 < v0 then chk (b01 (0 : Int32)) (some (0 : Int32)) else chk (b01 (1 : Int32)) (some (1 : Int32))))
set_option maxRecDepth 100000 in
set_option maxHeartbeats 4000000 in
theorem sX7_isIn {X : JX} {cI cZ cO cJ : ClassId} {wv : va_W} {post : Option Value → va_W → Prop} (hX : jOK X cX7_isIn 3 wsX7_isIn RX7 rmX7_isIn) (hT : jT X = jTy cI cZ cO cJ) (hGX : jG X jG0) (hret : jRZ X cX7_isIn rmX7_isIn post) {o : Int32} (hro : ∀ v9 : Int32, o = v9 → post (some (.int v9)) wv) {v0 v1 v2 : Int32} (h : fX7_isIn v0 v1 v2 = some o) : JW X 0 0 wv 0 [(0, .int v0), (1, .int v1), (2, .int v2)] [] := by
  unfold fX7_isIn at h
  refine jw_iload_n hX dX7_isIn_0 rfl 0 rfl ?_
  refine jw_iload_n hX dX7_isIn_1 rfl 1 rfl ?_
  refine jw_icmp_lt (tgt := 14) hX dX7_isIn_2 (by decide) (fun hc => ?_) (fun hc => ?_)
  · rw [if_pos hc] at h
    refine jw_iconst (v := (0 : Int32)) hX dX7_isIn_14 (by decide) ?_
    obtain ⟨hz15, h⟩ := chk_some h
    exact hret _ _ _ _ _ _ (b01_or hz15) (Nat.zero_le _) (Nat.zero_le _) dX7_isIn_15 (hro _ (Option.some.inj h).symm)
  · rw [if_neg hc] at h
    refine jw_iload_n hX dX7_isIn_5 rfl 0 rfl ?_
    refine jw_iload_n hX dX7_isIn_6 rfl 2 rfl ?_
    refine jw_icmp_gt (tgt := 14) hX dX7_isIn_7 (by decide) (fun hc => ?_) (fun hc => ?_)
    · rw [if_pos hc] at h
      refine jw_iconst (v := (0 : Int32)) hX dX7_isIn_14 (by decide) ?_
      obtain ⟨hz15, h⟩ := chk_some h
      exact hret _ _ _ _ _ _ (b01_or hz15) (Nat.zero_le _) (Nat.zero_le _) dX7_isIn_15 (hro _ (Option.some.inj h).symm)
    · rw [if_neg hc] at h
      refine jw_iconst (v := (1 : Int32)) hX dX7_isIn_10 (by decide) ?_
      refine jw_goto (tgt := 15) hX dX7_isIn_11 (by decide) ?_
      obtain ⟨hz15, h⟩ := chk_some h
      exact hret _ _ _ _ _ _ (b01_or hz15) (Nat.zero_le _) (Nat.zero_le _) dX7_isIn_15 (hro _ (Option.some.inj h).symm)
set_option maxRecDepth 100000 in
set_option maxHeartbeats 4000000 in
theorem kX7_isIn {l : Launch} {D : va_G} {tys : List (ClassId × FieldType)} {cI cZ cO cJ : ClassId} {wv : va_W} {v0 v1 v2 : Int32} {r : Int32} (hT : tys = jTy cI cZ cO cJ) (h : fX7_isIn v0 v1 v2 = some r) : CC l jG0 D tys yX7_isIn wsX7_isIn rmX7_isIn [.int v0, .int v1, .int v2] wv (fun ov w2 => ov = some (.int r) ∧ w2 = wv) := by
  refine CC_of (cc := cX7_isIn) (maxL := 3) (ret := (some .boolean)) (by decide) rfl (by decide) ?_
  intro X hD hL hT0 hGX hX rI rZ rV rA
  exact sX7_isIn hX (hT0.trans hT) hGX (fun cells slots w9 pc lv v => rZ cells slots w9 pc lv v rfl) (o := r) (fun v9 e9 => by cases e9; exact ⟨rfl, rfl⟩) h
/-! X7_isEntry -/
abbrev rmX7_isEntry : Room := { frames := 1, cells := 0, slots := 0, locals := 22 }
theorem hdX7_isEntry : yX7_isEntry.cls = RX7 ∧ yX7_isEntry.cls ≠ "java/lang/invoke/MethodHandle" ∧ yX7_isEntry.cls ≠ "java/lang/invoke/VarHandle" ∧ (parseMethodDescriptor yX7_isEntry.desc).map (fun d => d.parameters.length) = some 1 := by decide +kernel
theorem inX7_isEntry : ∀ w ∈ wsX70, w ∈ wsX7_isEntry := fun _ h => List.mem_cons_of_mem _ (List.mem_append_right _ h)
theorem lkX7_isEntry_126 : Cond.fieldLink RX7 126 "PostlintModel" (TX7 3).2.1 (TX7 3).2.2.1 ∈ wsX7_isEntry := by decide +kernel
def fX7_isEntry (w : MW) (v1 : Int32) : Option Int32 := bP (fX7_isIn v1 (0 : Int32) ((w.1 3) - (1 : Int32))) (fun r8 => chk (b01 r8) (some r8))
set_option maxRecDepth 100000 in
set_option maxHeartbeats 4000000 in
theorem sX7_isEntry {X : JX} {a : Nat} {ad : Nat → Nat} {cI cZ cO cJ : ClassId} {w : MW} {post : Option Value → va_W → Prop} (hX : jOK X cX7_isEntry 2 wsX7_isEntry RX7 rmX7_isEntry) (hT : jT X = jTy cI cZ cO cJ) (hGX : jG X jG0) (hret : jRZ X cX7_isEntry rmX7_isEntry post) {o : Int32} (hro : ∀ v9 : Int32, o = v9 → post (some (.int v9)) (mW a ad cI cZ w)) {v1 : Int32} (h : fX7_isEntry w v1 = some o) : JW X 0 0 (mW a ad cI cZ w) 0 [(0, .ref a), (1, .int v1)] [] := by
  unfold fX7_isEntry at h
  refine jw_iload_n hX dX7_isEntry_0 rfl 1 rfl ?_
  refine jw_iconst (v := (0 : Int32)) hX dX7_isEntry_1 (by decide) ?_
  refine jw_aload_n hX dX7_isEntry_2 rfl 0 rfl ?_
  refine jw_mgetI hX hT inX7_isEntry 3 (by decide) lkX7_isEntry_126 rfl dX7_isEntry_3 ?_
  refine jw_iconst (v := (1 : Int32)) hX dX7_isEntry_6 (by decide) ?_
  refine jw_isub hX dX7_isEntry_7 ?_
  obtain ⟨r8, hc8, h⟩ := bP_some h
  refine jw_cSi (As := [.int v1, .int (0 : Int32), .int ((w.1 3) - (1 : Int32))]) hX jG0_ok hGX 3 (kX7_isIn hT hc8) gX7_isEntry_X7_isIn rfl hdX7_isIn ⟨by decide, by decide⟩ rfl (by decide) dX7_isEntry_8 rfl rfl ⟨by decide, by decide⟩ ?_
  obtain ⟨hz11, h⟩ := chk_some h
  exact hret _ _ _ _ _ _ (b01_or hz11) (Nat.zero_le _) (Nat.zero_le _) dX7_isEntry_11 (hro _ (Option.some.inj h).symm)
set_option maxRecDepth 100000 in
set_option maxHeartbeats 4000000 in
theorem kX7_isEntry {l : Launch} {D : va_G} {tys : List (ClassId × FieldType)} {a : Nat} {ad : Nat → Nat} {cI cZ cO cJ : ClassId} {w : MW} {v1 : Int32} {r : Int32} (hT : tys = jTy cI cZ cO cJ) (h : fX7_isEntry w v1 = some r) : CC l jG0 D tys yX7_isEntry wsX7_isEntry rmX7_isEntry [.ref a, .int v1] (mW a ad cI cZ w) (fun ov w2 => ov = some (.int r) ∧ w2 = (mW a ad cI cZ w)) := by
  refine CC_of (cc := cX7_isEntry) (maxL := 2) (ret := (some .boolean)) (by decide) rfl (by decide) ?_
  intro X hD hL hT0 hGX hX rI rZ rV rA
  exact sX7_isEntry hX (hT0.trans hT) hGX (fun cells slots w9 pc lv v => rZ cells slots w9 pc lv v rfl) (o := r) (fun v9 e9 => by cases e9; exact ⟨rfl, rfl⟩) h
/-! X7_next -/
abbrev rmX7_next : Room := { frames := 1, cells := 0, slots := 0, locals := 22 }
theorem hdX7_next : yX7_next.cls ≠ "java/lang/invoke/MethodHandle" ∧ yX7_next.cls ≠ "java/lang/invoke/VarHandle" ∧ (parseMethodDescriptor yX7_next.desc).map (fun d => d.parameters.length) = some 4 := by decide +kernel
def fX7_next_J175 (v1 v5 : Int32) : Option Int32 := (if ¬ v1 = (32 : Int32) then (if v5 = 0 then some (-1 : Int32) else some (5 : Int32)) else some (4 : Int32))
def fX7_next_J44 (v0 v1 v2 v4 t0 : Int32) : Option Int32 := (if v0 = (0 : Int32) then (if v1 = (32 : Int32) then some (0 : Int32) else (if ¬ v1 = (40 : Int32) then (if v4 = 0 then some (-1 : Int32) else some (1 : Int32)) else (if v4 = 0 then (if v4 = 0 then some (-1 : Int32) else some (1 : Int32)) else some (0 : Int32)))) else (if v0 = (1 : Int32) then (if v1 = (43 : Int32) then some (2 : Int32) else (if ¬ v1 = (45 : Int32) then some (-1 : Int32) else some (2 : Int32))) else (if v0 = (2 : Int32) then bP (fX7_isIn v1 (48 : Int32) (57 : Int32)) (fun r143 => (if r143 = 0 then some (-1 : Int32) else some (3 : Int32))) else (if v0 = (3 : Int32) then bP (fX7_isIn v1 (48 : Int32) (57 : Int32)) (fun r160 => (if r160 = 0 then fX7_next_J175 v1 t0 else (if (3 : Int32) ≤ v2 then fX7_next_J175 v1 t0 else some (3 : Int32)))) else (if v0 = (4 : Int32) then (if ¬ v1 = (32 : Int32) then (if t0 = 0 then (if ¬ v1 = (40 : Int32) then (if v4 = 0 then some (-1 : Int32) else some (1 : Int32)) else (if v4 = 0 then (if v4 = 0 then some (-1 : Int32) else some (1 : Int32)) else some (0 : Int32))) else some (5 : Int32)) else some (4 : Int32)) else (if v0 = (5 : Int32) then (if ¬ v1 = (120 : Int32) then (if ¬ v1 = (32 : Int32) then (if t0 = 0 then some (-1 : Int32) else some (5 : Int32)) else some (4 : Int32)) else some (6 : Int32)) else (if v0 = (6 : Int32) then bP (fX7_isIn v1 (49 : Int32) (57 : Int32)) (fun r278 => (if r278 = 0 then some (-1 : Int32) else some (7 : Int32))) else (if ¬ v1 = (32 : Int32) then (if t0 = 0 then some (-1 : Int32) else some (5 : Int32)) else some (4 : Int32)))))))))
def fX7_next_J43 (v0 v1 v2 v4 : Int32) : Option Int32 := fX7_next_J44 v0 v1 v2 v4 (0 : Int32)
def fX7_next_J27 (v0 v1 v2 v3 t0 : Int32) : Option Int32 := (if ¬ v1 = (41 : Int32) then fX7_next_J43 v0 v1 v2 t0 else (if v3 ≤ 0 then fX7_next_J43 v0 v1 v2 t0 else fX7_next_J44 v0 v1 v2 t0 (1 : Int32)))
def fX7_next_J22 (v0 v1 v2 v3 : Int32) : Option Int32 := fX7_next_J27 v0 v1 v2 v3 (1 : Int32)
def fX7_next_J26 (v0 v1 v2 v3 : Int32) : Option Int32 := fX7_next_J27 v0 v1 v2 v3 (0 : Int32)
def fX7_next (v0 v1 v2 v3 : Int32) : Option Int32 := bP (fX7_isIn v1 (97 : Int32) (104 : Int32)) (fun r5 => (if ¬ r5 = 0 then fX7_next_J22 v0 v1 v2 v3 else (if ¬ v1 = (40 : Int32) then fX7_next_J26 v0 v1 v2 v3 else (if (5 : Int32) ≤ v3 then fX7_next_J26 v0 v1 v2 v3 else fX7_next_J22 v0 v1 v2 v3))))
set_option maxRecDepth 100000 in
set_option maxHeartbeats 4000000 in
theorem sX7_next_J175 {X : JX} {cI cZ cO cJ : ClassId} {wv : va_W} {post : Option Value → va_W → Prop} (hX : jOK X cX7_next 6 wsX7_next RX7 rmX7_next) (hT : jT X = jTy cI cZ cO cJ) (hGX : jG X jG0) (hret : jRI X cX7_next rmX7_next post) {o : Int32}   (hro : ∀ v9 : Int32, o = v9 → post (some (.int v9)) wv) {v1 v5 : Int32} (h : fX7_next_J175 v1 v5 = some o) : JW X 0 0 wv 175 [(1, .int v1), (5, .int v5)] [] := by
  unfold fX7_next_J175 at h
  refine jw_iload_n hX dX7_next_175 rfl 0 rfl ?_
  refine jw_bipush (v := (32 : Int32)) hX dX7_next_176 (by decide) ?_
  refine jw_icmp_ne (tgt := 185) hX dX7_next_178 (by decide) (fun hc => ?_) (fun hc => ?_)
  · rw [if_pos hc] at h
    refine jw_iload hX dX7_next_185 1 rfl ?_
    refine jw_if_eq (tgt := 194) hX dX7_next_187 (by decide) (fun hc => ?_) (fun hc => ?_)
    · rw [if_pos hc] at h
      refine jw_iconst (v := (-1 : Int32)) hX dX7_next_194 (by decide) ?_
      exact hret _ _ _ _ _ _ (Nat.zero_le _) (Nat.zero_le _) dX7_next_195 (hro _ (Option.some.inj h).symm)
    · rw [if_neg hc] at h
      refine jw_iconst (v := (5 : Int32)) hX dX7_next_190 (by decide) ?_
      refine jw_goto (tgt := 195) hX dX7_next_191 (by decide) ?_
      exact hret _ _ _ _ _ _ (Nat.zero_le _) (Nat.zero_le _) dX7_next_195 (hro _ (Option.some.inj h).symm)
  · rw [if_neg hc] at h
    refine jw_iconst (v := (4 : Int32)) hX dX7_next_181 (by decide) ?_
    refine jw_goto (tgt := 195) hX dX7_next_182 (by decide) ?_
    exact hret _ _ _ _ _ _ (Nat.zero_le _) (Nat.zero_le _) dX7_next_195 (hro _ (Option.some.inj h).symm)
set_option maxRecDepth 100000 in
set_option maxHeartbeats 4000000 in
theorem sX7_next_J44 {X : JX} {cI cZ cO cJ : ClassId} {wv : va_W} {post : Option Value → va_W → Prop} (hX : jOK X cX7_next 6 wsX7_next RX7 rmX7_next) (hT : jT X = jTy cI cZ cO cJ) (hGX : jG X jG0) (hret : jRI X cX7_next rmX7_next post) {o : Int32}   (hro : ∀ v9 : Int32, o = v9 → post (some (.int v9)) wv) {v0 v1 v2 v4 t0 : Int32} (h : fX7_next_J44 v0 v1 v2 v4 t0 = some o) : JW X 0 0 wv 44 [(0, .int v0), (1, .int v1), (2, .int v2), (4, .int v4)] [.int t0] := by
  unfold fX7_next_J44 at h
  refine jw_istore hX [(5, .int t0), (0, .int v0), (1, .int v1), (2, .int v2), (4, .int v4)] dX7_next_44 (by decide) rfl ?_
  refine jw_iload_n hX dX7_next_46 rfl 1 rfl ?_
  by_cases hc0 : v0 = (0 : Int32)
  · rw [if_pos hc0] at h
    refine jw_tableIn (tgt := 88) 0 hX dX7_next_47 hc0 (by decide) (by decide) (by decide) (by decide) ?_
    refine jw_iload_n hX dX7_next_88 rfl 2 rfl ?_
    refine jw_bipush (v := (32 : Int32)) hX dX7_next_89 (by decide) ?_
    refine jw_icmp_eq (tgt := 105) hX dX7_next_91 (by decide) (fun hc => ?_) (fun hc => ?_)
    · rw [if_pos hc] at h
      refine jw_iconst (v := (0 : Int32)) hX dX7_next_105 (by decide) ?_
      refine jw_goto (tgt := 119) hX dX7_next_106 (by decide) ?_
      exact hret _ _ _ _ _ _ (Nat.zero_le _) (Nat.zero_le _) dX7_next_119 (hro _ (Option.some.inj h).symm)
    · rw [if_neg hc] at h
      refine jw_iload_n hX dX7_next_94 rfl 2 rfl ?_
      refine jw_bipush (v := (40 : Int32)) hX dX7_next_95 (by decide) ?_
      refine jw_icmp_ne (tgt := 109) hX dX7_next_97 (by decide) (fun hc => ?_) (fun hc => ?_)
      · rw [if_pos hc] at h
        refine jw_iload hX dX7_next_109 4 rfl ?_
        refine jw_if_eq (tgt := 118) hX dX7_next_111 (by decide) (fun hc => ?_) (fun hc => ?_)
        · rw [if_pos hc] at h
          refine jw_iconst (v := (-1 : Int32)) hX dX7_next_118 (by decide) ?_
          exact hret _ _ _ _ _ _ (Nat.zero_le _) (Nat.zero_le _) dX7_next_119 (hro _ (Option.some.inj h).symm)
        · rw [if_neg hc] at h
          refine jw_iconst (v := (1 : Int32)) hX dX7_next_114 (by decide) ?_
          refine jw_goto (tgt := 119) hX dX7_next_115 (by decide) ?_
          exact hret _ _ _ _ _ _ (Nat.zero_le _) (Nat.zero_le _) dX7_next_119 (hro _ (Option.some.inj h).symm)
      · rw [if_neg hc] at h
        refine jw_iload hX dX7_next_100 4 rfl ?_
        refine jw_if_eq (tgt := 109) hX dX7_next_102 (by decide) (fun hc => ?_) (fun hc => ?_)
        · rw [if_pos hc] at h
          refine jw_iload hX dX7_next_109 4 rfl ?_
          refine jw_if_eq (tgt := 118) hX dX7_next_111 (by decide) (fun hc => ?_) (fun hc => ?_)
          · rw [if_pos hc] at h
            refine jw_iconst (v := (-1 : Int32)) hX dX7_next_118 (by decide) ?_
            exact hret _ _ _ _ _ _ (Nat.zero_le _) (Nat.zero_le _) dX7_next_119 (hro _ (Option.some.inj h).symm)
          · rw [if_neg hc] at h
            refine jw_iconst (v := (1 : Int32)) hX dX7_next_114 (by decide) ?_
            refine jw_goto (tgt := 119) hX dX7_next_115 (by decide) ?_
            exact hret _ _ _ _ _ _ (Nat.zero_le _) (Nat.zero_le _) dX7_next_119 (hro _ (Option.some.inj h).symm)
        · rw [if_neg hc] at h
          refine jw_iconst (v := (0 : Int32)) hX dX7_next_105 (by decide) ?_
          refine jw_goto (tgt := 119) hX dX7_next_106 (by decide) ?_
          exact hret _ _ _ _ _ _ (Nat.zero_le _) (Nat.zero_le _) dX7_next_119 (hro _ (Option.some.inj h).symm)
  · rw [if_neg hc0] at h
    by_cases hc1 : v0 = (1 : Int32)
    · rw [if_pos hc1] at h
      refine jw_tableIn (tgt := 120) 1 hX dX7_next_47 hc1 (by decide) (by decide) (by decide) (by decide) ?_
      refine jw_iload_n hX dX7_next_120 rfl 2 rfl ?_
      refine jw_bipush (v := (43 : Int32)) hX dX7_next_121 (by decide) ?_
      refine jw_icmp_eq (tgt := 132) hX dX7_next_123 (by decide) (fun hc => ?_) (fun hc => ?_)
      · rw [if_pos hc] at h
        refine jw_iconst (v := (2 : Int32)) hX dX7_next_132 (by decide) ?_
        refine jw_goto (tgt := 137) hX dX7_next_133 (by decide) ?_
        exact hret _ _ _ _ _ _ (Nat.zero_le _) (Nat.zero_le _) dX7_next_137 (hro _ (Option.some.inj h).symm)
      · rw [if_neg hc] at h
        refine jw_iload_n hX dX7_next_126 rfl 2 rfl ?_
        refine jw_bipush (v := (45 : Int32)) hX dX7_next_127 (by decide) ?_
        refine jw_icmp_ne (tgt := 136) hX dX7_next_129 (by decide) (fun hc => ?_) (fun hc => ?_)
        · rw [if_pos hc] at h
          refine jw_iconst (v := (-1 : Int32)) hX dX7_next_136 (by decide) ?_
          exact hret _ _ _ _ _ _ (Nat.zero_le _) (Nat.zero_le _) dX7_next_137 (hro _ (Option.some.inj h).symm)
        · rw [if_neg hc] at h
          refine jw_iconst (v := (2 : Int32)) hX dX7_next_132 (by decide) ?_
          refine jw_goto (tgt := 137) hX dX7_next_133 (by decide) ?_
          exact hret _ _ _ _ _ _ (Nat.zero_le _) (Nat.zero_le _) dX7_next_137 (hro _ (Option.some.inj h).symm)
    · rw [if_neg hc1] at h
      by_cases hc2 : v0 = (2 : Int32)
      · rw [if_pos hc2] at h
        refine jw_tableIn (tgt := 138) 2 hX dX7_next_47 hc2 (by decide) (by decide) (by decide) (by decide) ?_
        refine jw_iload_n hX dX7_next_138 rfl 2 rfl ?_
        refine jw_bipush (v := (48 : Int32)) hX dX7_next_139 (by decide) ?_
        refine jw_bipush (v := (57 : Int32)) hX dX7_next_141 (by decide) ?_
        obtain ⟨r143, hc143, h⟩ := bP_some h
        refine jw_cSi (As := [.int v1, .int (48 : Int32), .int (57 : Int32)]) hX jG0_ok hGX 3 (kX7_isIn hT hc143) gX7_next_X7_isIn rfl hdX7_isIn ⟨by decide, by decide⟩ rfl (by decide) dX7_next_143 rfl rfl ⟨by decide, by decide⟩ ?_
        refine jw_if_eq (tgt := 153) hX dX7_next_146 (by decide) (fun hc => ?_) (fun hc => ?_)
        · rw [if_pos hc] at h
          refine jw_iconst (v := (-1 : Int32)) hX dX7_next_153 (by decide) ?_
          exact hret _ _ _ _ _ _ (Nat.zero_le _) (Nat.zero_le _) dX7_next_154 (hro _ (Option.some.inj h).symm)
        · rw [if_neg hc] at h
          refine jw_iconst (v := (3 : Int32)) hX dX7_next_149 (by decide) ?_
          refine jw_goto (tgt := 154) hX dX7_next_150 (by decide) ?_
          exact hret _ _ _ _ _ _ (Nat.zero_le _) (Nat.zero_le _) dX7_next_154 (hro _ (Option.some.inj h).symm)
      · rw [if_neg hc2] at h
        by_cases hc3 : v0 = (3 : Int32)
        · rw [if_pos hc3] at h
          refine jw_tableIn (tgt := 155) 3 hX dX7_next_47 hc3 (by decide) (by decide) (by decide) (by decide) ?_
          refine jw_iload_n hX dX7_next_155 rfl 2 rfl ?_
          refine jw_bipush (v := (48 : Int32)) hX dX7_next_156 (by decide) ?_
          refine jw_bipush (v := (57 : Int32)) hX dX7_next_158 (by decide) ?_
          obtain ⟨r160, hc160, h⟩ := bP_some h
          refine jw_cSi (As := [.int v1, .int (48 : Int32), .int (57 : Int32)]) hX jG0_ok hGX 3 (kX7_isIn hT hc160) gX7_next_X7_isIn rfl hdX7_isIn ⟨by decide, by decide⟩ rfl (by decide) dX7_next_160 rfl rfl ⟨by decide, by decide⟩ ?_
          refine jw_if_eq (tgt := 175) hX dX7_next_163 (by decide) (fun hc => ?_) (fun hc => ?_)
          · rw [if_pos hc] at h
            refine jw_sub [2, 0] [(1, .int v1), (5, .int t0)] rfl ?_
            exact sX7_next_J175 hX hT hGX hret hro h
          · rw [if_neg hc] at h
            refine jw_iload_n hX dX7_next_166 rfl 3 rfl ?_
            refine jw_iconst (v := (3 : Int32)) hX dX7_next_167 (by decide) ?_
            refine jw_icmp_ge (tgt := 175) hX dX7_next_168 (by decide) (fun hc => ?_) (fun hc => ?_)
            · rw [if_pos hc] at h
              refine jw_sub [2, 0] [(1, .int v1), (5, .int t0)] rfl ?_
              exact sX7_next_J175 hX hT hGX hret hro h
            · rw [if_neg hc] at h
              refine jw_iconst (v := (3 : Int32)) hX dX7_next_171 (by decide) ?_
              refine jw_goto (tgt := 195) hX dX7_next_172 (by decide) ?_
              exact hret _ _ _ _ _ _ (Nat.zero_le _) (Nat.zero_le _) dX7_next_195 (hro _ (Option.some.inj h).symm)
        · rw [if_neg hc3] at h
          by_cases hc4 : v0 = (4 : Int32)
          · rw [if_pos hc4] at h
            refine jw_tableIn (tgt := 196) 4 hX dX7_next_47 hc4 (by decide) (by decide) (by decide) (by decide) ?_
            refine jw_iload_n hX dX7_next_196 rfl 2 rfl ?_
            refine jw_bipush (v := (32 : Int32)) hX dX7_next_197 (by decide) ?_
            refine jw_icmp_ne (tgt := 206) hX dX7_next_199 (by decide) (fun hc => ?_) (fun hc => ?_)
            · rw [if_pos hc] at h
              refine jw_iload hX dX7_next_206 0 rfl ?_
              refine jw_if_eq (tgt := 215) hX dX7_next_208 (by decide) (fun hc => ?_) (fun hc => ?_)
              · rw [if_pos hc] at h
                refine jw_iload_n hX dX7_next_215 rfl 2 rfl ?_
                refine jw_bipush (v := (40 : Int32)) hX dX7_next_216 (by decide) ?_
                refine jw_icmp_ne (tgt := 230) hX dX7_next_218 (by decide) (fun hc => ?_) (fun hc => ?_)
                · rw [if_pos hc] at h
                  refine jw_iload hX dX7_next_230 4 rfl ?_
                  refine jw_if_eq (tgt := 239) hX dX7_next_232 (by decide) (fun hc => ?_) (fun hc => ?_)
                  · rw [if_pos hc] at h
                    refine jw_iconst (v := (-1 : Int32)) hX dX7_next_239 (by decide) ?_
                    exact hret _ _ _ _ _ _ (Nat.zero_le _) (Nat.zero_le _) dX7_next_240 (hro _ (Option.some.inj h).symm)
                  · rw [if_neg hc] at h
                    refine jw_iconst (v := (1 : Int32)) hX dX7_next_235 (by decide) ?_
                    refine jw_goto (tgt := 240) hX dX7_next_236 (by decide) ?_
                    exact hret _ _ _ _ _ _ (Nat.zero_le _) (Nat.zero_le _) dX7_next_240 (hro _ (Option.some.inj h).symm)
                · rw [if_neg hc] at h
                  refine jw_iload hX dX7_next_221 4 rfl ?_
                  refine jw_if_eq (tgt := 230) hX dX7_next_223 (by decide) (fun hc => ?_) (fun hc => ?_)
                  · rw [if_pos hc] at h
                    refine jw_iload hX dX7_next_230 4 rfl ?_
                    refine jw_if_eq (tgt := 239) hX dX7_next_232 (by decide) (fun hc => ?_) (fun hc => ?_)
                    · rw [if_pos hc] at h
                      refine jw_iconst (v := (-1 : Int32)) hX dX7_next_239 (by decide) ?_
                      exact hret _ _ _ _ _ _ (Nat.zero_le _) (Nat.zero_le _) dX7_next_240 (hro _ (Option.some.inj h).symm)
                    · rw [if_neg hc] at h
                      refine jw_iconst (v := (1 : Int32)) hX dX7_next_235 (by decide) ?_
                      refine jw_goto (tgt := 240) hX dX7_next_236 (by decide) ?_
                      exact hret _ _ _ _ _ _ (Nat.zero_le _) (Nat.zero_le _) dX7_next_240 (hro _ (Option.some.inj h).symm)
                  · rw [if_neg hc] at h
                    refine jw_iconst (v := (0 : Int32)) hX dX7_next_226 (by decide) ?_
                    refine jw_goto (tgt := 240) hX dX7_next_227 (by decide) ?_
                    exact hret _ _ _ _ _ _ (Nat.zero_le _) (Nat.zero_le _) dX7_next_240 (hro _ (Option.some.inj h).symm)
              · rw [if_neg hc] at h
                refine jw_iconst (v := (5 : Int32)) hX dX7_next_211 (by decide) ?_
                refine jw_goto (tgt := 240) hX dX7_next_212 (by decide) ?_
                exact hret _ _ _ _ _ _ (Nat.zero_le _) (Nat.zero_le _) dX7_next_240 (hro _ (Option.some.inj h).symm)
            · rw [if_neg hc] at h
              refine jw_iconst (v := (4 : Int32)) hX dX7_next_202 (by decide) ?_
              refine jw_goto (tgt := 240) hX dX7_next_203 (by decide) ?_
              exact hret _ _ _ _ _ _ (Nat.zero_le _) (Nat.zero_le _) dX7_next_240 (hro _ (Option.some.inj h).symm)
          · rw [if_neg hc4] at h
            by_cases hc5 : v0 = (5 : Int32)
            · rw [if_pos hc5] at h
              refine jw_tableIn (tgt := 241) 5 hX dX7_next_47 hc5 (by decide) (by decide) (by decide) (by decide) ?_
              refine jw_iload_n hX dX7_next_241 rfl 2 rfl ?_
              refine jw_bipush (v := (120 : Int32)) hX dX7_next_242 (by decide) ?_
              refine jw_icmp_ne (tgt := 252) hX dX7_next_244 (by decide) (fun hc => ?_) (fun hc => ?_)
              · rw [if_pos hc] at h
                refine jw_iload_n hX dX7_next_252 rfl 2 rfl ?_
                refine jw_bipush (v := (32 : Int32)) hX dX7_next_253 (by decide) ?_
                refine jw_icmp_ne (tgt := 262) hX dX7_next_255 (by decide) (fun hc => ?_) (fun hc => ?_)
                · rw [if_pos hc] at h
                  refine jw_iload hX dX7_next_262 0 rfl ?_
                  refine jw_if_eq (tgt := 271) hX dX7_next_264 (by decide) (fun hc => ?_) (fun hc => ?_)
                  · rw [if_pos hc] at h
                    refine jw_iconst (v := (-1 : Int32)) hX dX7_next_271 (by decide) ?_
                    exact hret _ _ _ _ _ _ (Nat.zero_le _) (Nat.zero_le _) dX7_next_272 (hro _ (Option.some.inj h).symm)
                  · rw [if_neg hc] at h
                    refine jw_iconst (v := (5 : Int32)) hX dX7_next_267 (by decide) ?_
                    refine jw_goto (tgt := 272) hX dX7_next_268 (by decide) ?_
                    exact hret _ _ _ _ _ _ (Nat.zero_le _) (Nat.zero_le _) dX7_next_272 (hro _ (Option.some.inj h).symm)
                · rw [if_neg hc] at h
                  refine jw_iconst (v := (4 : Int32)) hX dX7_next_258 (by decide) ?_
                  refine jw_goto (tgt := 272) hX dX7_next_259 (by decide) ?_
                  exact hret _ _ _ _ _ _ (Nat.zero_le _) (Nat.zero_le _) dX7_next_272 (hro _ (Option.some.inj h).symm)
              · rw [if_neg hc] at h
                refine jw_bipush (v := (6 : Int32)) hX dX7_next_247 (by decide) ?_
                refine jw_goto (tgt := 272) hX dX7_next_249 (by decide) ?_
                exact hret _ _ _ _ _ _ (Nat.zero_le _) (Nat.zero_le _) dX7_next_272 (hro _ (Option.some.inj h).symm)
            · rw [if_neg hc5] at h
              by_cases hc6 : v0 = (6 : Int32)
              · rw [if_pos hc6] at h
                refine jw_tableIn (tgt := 273) 6 hX dX7_next_47 hc6 (by decide) (by decide) (by decide) (by decide) ?_
                refine jw_iload_n hX dX7_next_273 rfl 2 rfl ?_
                refine jw_bipush (v := (49 : Int32)) hX dX7_next_274 (by decide) ?_
                refine jw_bipush (v := (57 : Int32)) hX dX7_next_276 (by decide) ?_
                obtain ⟨r278, hc278, h⟩ := bP_some h
                refine jw_cSi (As := [.int v1, .int (49 : Int32), .int (57 : Int32)]) hX jG0_ok hGX 3 (kX7_isIn hT hc278) gX7_next_X7_isIn rfl hdX7_isIn ⟨by decide, by decide⟩ rfl (by decide) dX7_next_278 rfl rfl ⟨by decide, by decide⟩ ?_
                refine jw_if_eq (tgt := 289) hX dX7_next_281 (by decide) (fun hc => ?_) (fun hc => ?_)
                · rw [if_pos hc] at h
                  refine jw_iconst (v := (-1 : Int32)) hX dX7_next_289 (by decide) ?_
                  exact hret _ _ _ _ _ _ (Nat.zero_le _) (Nat.zero_le _) dX7_next_290 (hro _ (Option.some.inj h).symm)
                · rw [if_neg hc] at h
                  refine jw_bipush (v := (7 : Int32)) hX dX7_next_284 (by decide) ?_
                  refine jw_goto (tgt := 290) hX dX7_next_286 (by decide) ?_
                  exact hret _ _ _ _ _ _ (Nat.zero_le _) (Nat.zero_le _) dX7_next_290 (hro _ (Option.some.inj h).symm)
              · rw [if_neg hc6] at h
                refine jw_tableOut (tgt := 291) (hi := 6) hX (by decide) dX7_next_47 (fun j hj e9 => ?_) (by decide) ?_
                · match j, hj, e9 with
                  | 0, _, e9 => exact hc0 e9
                  | 1, _, e9 => exact hc1 e9
                  | 2, _, e9 => exact hc2 e9
                  | 3, _, e9 => exact hc3 e9
                  | 4, _, e9 => exact hc4 e9
                  | 5, _, e9 => exact hc5 e9
                  | 6, _, e9 => exact hc6 e9
                  | j + 7, hj, _ => exact absurd hj (by omega)
                · refine jw_iload_n hX dX7_next_291 rfl 2 rfl ?_
                  refine jw_bipush (v := (32 : Int32)) hX dX7_next_292 (by decide) ?_
                  refine jw_icmp_ne (tgt := 301) hX dX7_next_294 (by decide) (fun hc => ?_) (fun hc => ?_)
                  · rw [if_pos hc] at h
                    refine jw_iload hX dX7_next_301 0 rfl ?_
                    refine jw_if_eq (tgt := 310) hX dX7_next_303 (by decide) (fun hc => ?_) (fun hc => ?_)
                    · rw [if_pos hc] at h
                      refine jw_iconst (v := (-1 : Int32)) hX dX7_next_310 (by decide) ?_
                      exact hret _ _ _ _ _ _ (Nat.zero_le _) (Nat.zero_le _) dX7_next_311 (hro _ (Option.some.inj h).symm)
                    · rw [if_neg hc] at h
                      refine jw_iconst (v := (5 : Int32)) hX dX7_next_306 (by decide) ?_
                      refine jw_goto (tgt := 311) hX dX7_next_307 (by decide) ?_
                      exact hret _ _ _ _ _ _ (Nat.zero_le _) (Nat.zero_le _) dX7_next_311 (hro _ (Option.some.inj h).symm)
                  · rw [if_neg hc] at h
                    refine jw_iconst (v := (4 : Int32)) hX dX7_next_297 (by decide) ?_
                    refine jw_goto (tgt := 311) hX dX7_next_298 (by decide) ?_
                    exact hret _ _ _ _ _ _ (Nat.zero_le _) (Nat.zero_le _) dX7_next_311 (hro _ (Option.some.inj h).symm)
set_option maxRecDepth 100000 in
set_option maxHeartbeats 4000000 in
theorem sX7_next_J43 {X : JX} {cI cZ cO cJ : ClassId} {wv : va_W} {post : Option Value → va_W → Prop} (hX : jOK X cX7_next 6 wsX7_next RX7 rmX7_next) (hT : jT X = jTy cI cZ cO cJ) (hGX : jG X jG0) (hret : jRI X cX7_next rmX7_next post) {o : Int32}   (hro : ∀ v9 : Int32, o = v9 → post (some (.int v9)) wv) {v0 v1 v2 v4 : Int32} (h : fX7_next_J43 v0 v1 v2 v4 = some o) : JW X 0 0 wv 43 [(0, .int v0), (1, .int v1), (2, .int v2), (4, .int v4)] [] := by
  unfold fX7_next_J43 at h
  refine jw_iconst (v := (0 : Int32)) hX dX7_next_43 (by decide) ?_
  exact sX7_next_J44 hX hT hGX hret hro h
set_option maxRecDepth 100000 in
set_option maxHeartbeats 4000000 in
theorem sX7_next_J27 {X : JX} {cI cZ cO cJ : ClassId} {wv : va_W} {post : Option Value → va_W → Prop} (hX : jOK X cX7_next 6 wsX7_next RX7 rmX7_next) (hT : jT X = jTy cI cZ cO cJ) (hGX : jG X jG0) (hret : jRI X cX7_next rmX7_next post) {o : Int32}   (hro : ∀ v9 : Int32, o = v9 → post (some (.int v9)) wv) {v0 v1 v2 v3 t0 : Int32} (h : fX7_next_J27 v0 v1 v2 v3 t0 = some o) : JW X 0 0 wv 27 [(0, .int v0), (1, .int v1), (2, .int v2), (3, .int v3)] [.int t0] := by
  unfold fX7_next_J27 at h
  refine jw_istore hX [(4, .int t0), (0, .int v0), (1, .int v1), (2, .int v2), (3, .int v3)] dX7_next_27 (by decide) rfl ?_
  refine jw_iload_n hX dX7_next_29 rfl 2 rfl ?_
  refine jw_bipush (v := (41 : Int32)) hX dX7_next_30 (by decide) ?_
  refine jw_icmp_ne (tgt := 43) hX dX7_next_32 (by decide) (fun hc => ?_) (fun hc => ?_)
  · rw [if_pos hc] at h
    refine jw_sub [1, 2, 3, 0] [(0, .int v0), (1, .int v1), (2, .int v2), (4, .int t0)] rfl ?_
    exact sX7_next_J43 hX hT hGX hret hro h
  · rw [if_neg hc] at h
    refine jw_iload_n hX dX7_next_35 rfl 4 rfl ?_
    refine jw_if_le (tgt := 43) hX dX7_next_36 (by decide) (fun hc => ?_) (fun hc => ?_)
    · rw [if_pos hc] at h
      refine jw_sub [1, 2, 3, 0] [(0, .int v0), (1, .int v1), (2, .int v2), (4, .int t0)] rfl ?_
      exact sX7_next_J43 hX hT hGX hret hro h
    · rw [if_neg hc] at h
      refine jw_iconst (v := (1 : Int32)) hX dX7_next_39 (by decide) ?_
      refine jw_goto (tgt := 44) hX dX7_next_40 (by decide) ?_
      refine jw_sub [1, 2, 3, 0] [(0, .int v0), (1, .int v1), (2, .int v2), (4, .int t0)] rfl ?_
      exact sX7_next_J44 hX hT hGX hret hro h
set_option maxRecDepth 100000 in
set_option maxHeartbeats 4000000 in
theorem sX7_next_J22 {X : JX} {cI cZ cO cJ : ClassId} {wv : va_W} {post : Option Value → va_W → Prop} (hX : jOK X cX7_next 6 wsX7_next RX7 rmX7_next) (hT : jT X = jTy cI cZ cO cJ) (hGX : jG X jG0) (hret : jRI X cX7_next rmX7_next post) {o : Int32}   (hro : ∀ v9 : Int32, o = v9 → post (some (.int v9)) wv) {v0 v1 v2 v3 : Int32} (h : fX7_next_J22 v0 v1 v2 v3 = some o) : JW X 0 0 wv 22 [(0, .int v0), (1, .int v1), (2, .int v2), (3, .int v3)] [] := by
  unfold fX7_next_J22 at h
  refine jw_iconst (v := (1 : Int32)) hX dX7_next_22 (by decide) ?_
  refine jw_goto (tgt := 27) hX dX7_next_23 (by decide) ?_
  exact sX7_next_J27 hX hT hGX hret hro h
set_option maxRecDepth 100000 in
set_option maxHeartbeats 4000000 in
theorem sX7_next_J26 {X : JX} {cI cZ cO cJ : ClassId} {wv : va_W} {post : Option Value → va_W → Prop} (hX : jOK X cX7_next 6 wsX7_next RX7 rmX7_next) (hT : jT X = jTy cI cZ cO cJ) (hGX : jG X jG0) (hret : jRI X cX7_next rmX7_next post) {o : Int32}   (hro : ∀ v9 : Int32, o = v9 → post (some (.int v9)) wv) {v0 v1 v2 v3 : Int32} (h : fX7_next_J26 v0 v1 v2 v3 = some o) : JW X 0 0 wv 26 [(0, .int v0), (1, .int v1), (2, .int v2), (3, .int v3)] [] := by
  unfold fX7_next_J26 at h
  refine jw_iconst (v := (0 : Int32)) hX dX7_next_26 (by decide) ?_
  exact sX7_next_J27 hX hT hGX hret hro h
set_option maxRecDepth 100000 in
set_option maxHeartbeats 4000000 in
theorem sX7_next {X : JX} {cI cZ cO cJ : ClassId} {wv : va_W} {post : Option Value → va_W → Prop} (hX : jOK X cX7_next 6 wsX7_next RX7 rmX7_next) (hT : jT X = jTy cI cZ cO cJ) (hGX : jG X jG0) (hret : jRI X cX7_next rmX7_next post) {o : Int32} (hro : ∀ v9 : Int32, o = v9 → post (some (.int v9)) wv) {v0 v1 v2 v3 : Int32} (h : fX7_next v0 v1 v2 v3 = some o) : JW X 0 0 wv 0 [(0, .int v0), (1, .int v1), (2, .int v2), (3, .int v3)] [] := by
  unfold fX7_next at h
  refine jw_iload_n hX dX7_next_0 rfl 1 rfl ?_
  refine jw_bipush (v := (97 : Int32)) hX dX7_next_1 (by decide) ?_
  refine jw_bipush (v := (104 : Int32)) hX dX7_next_3 (by decide) ?_
  obtain ⟨r5, hc5, h⟩ := bP_some h
  refine jw_cSi (As := [.int v1, .int (97 : Int32), .int (104 : Int32)]) hX jG0_ok hGX 3 (kX7_isIn hT hc5) gX7_next_X7_isIn rfl hdX7_isIn ⟨by decide, by decide⟩ rfl (by decide) dX7_next_5 rfl rfl ⟨by decide, by decide⟩ ?_
  refine jw_if_ne (tgt := 22) hX dX7_next_8 (by decide) (fun hc => ?_) (fun hc => ?_)
  · rw [if_pos hc] at h
    exact sX7_next_J22 hX hT hGX hret hro h
  · rw [if_neg hc] at h
    refine jw_iload_n hX dX7_next_11 rfl 1 rfl ?_
    refine jw_bipush (v := (40 : Int32)) hX dX7_next_12 (by decide) ?_
    refine jw_icmp_ne (tgt := 26) hX dX7_next_14 (by decide) (fun hc => ?_) (fun hc => ?_)
    · rw [if_pos hc] at h
      exact sX7_next_J26 hX hT hGX hret hro h
    · rw [if_neg hc] at h
      refine jw_iload_n hX dX7_next_17 rfl 3 rfl ?_
      refine jw_iconst (v := (5 : Int32)) hX dX7_next_18 (by decide) ?_
      refine jw_icmp_ge (tgt := 26) hX dX7_next_19 (by decide) (fun hc => ?_) (fun hc => ?_)
      · rw [if_pos hc] at h
        exact sX7_next_J26 hX hT hGX hret hro h
      · rw [if_neg hc] at h
        exact sX7_next_J22 hX hT hGX hret hro h
set_option maxRecDepth 100000 in
set_option maxHeartbeats 4000000 in
theorem kX7_next {l : Launch} {D : va_G} {tys : List (ClassId × FieldType)} {cI cZ cO cJ : ClassId} {wv : va_W} {v0 v1 v2 v3 : Int32} {r : Int32} (hT : tys = jTy cI cZ cO cJ) (h : fX7_next v0 v1 v2 v3 = some r) : CC l jG0 D tys yX7_next wsX7_next rmX7_next [.int v0, .int v1, .int v2, .int v3] wv (fun ov w2 => ov = some (.int r) ∧ w2 = wv) := by
  refine CC_of (cc := cX7_next) (maxL := 6) (ret := (some .int)) (by decide) rfl (by decide) ?_
  intro X hD hL hT0 hGX hX rI rZ rV rA
  exact sX7_next hX (hT0.trans hT) hGX (fun cells slots w9 pc lv v => rI cells slots w9 pc lv v rfl) (o := r) (fun v9 e9 => by cases e9; exact ⟨rfl, rfl⟩) h
/-! X7_draftFault -/
abbrev rmX7_draftFault : Room := { frames := 2, cells := 0, slots := 0, locals := 47 }
theorem hdX7_draftFault : yX7_draftFault.cls = RX7 ∧ yX7_draftFault.cls ≠ "java/lang/invoke/MethodHandle" ∧ yX7_draftFault.cls ≠ "java/lang/invoke/VarHandle" ∧ (parseMethodDescriptor yX7_draftFault.desc).map (fun d => d.parameters.length) = some 0 := by decide +kernel
theorem inX7_draftFault : ∀ w ∈ wsX70, w ∈ wsX7_draftFault := fun _ h => List.mem_cons_of_mem _ (List.mem_append_right _ h)
theorem lkX7_draftFault_133 : Cond.fieldLink RX7 133 "PostlintModel" (TX7 1).2.1 (TX7 1).2.2.1 ∈ wsX7_draftFault := by decide +kernel
theorem lkX7_draftFault_7 : Cond.fieldLink RX7 7 "PostlintModel" (TX7 2).2.1 (TX7 2).2.2.1 ∈ wsX7_draftFault := by decide +kernel
def fX7_draftFault_J70 (n : Nat) (rec : MW → Int32 → Int32 → Int32 → Int32 → Option (Int32 ⊕ (Int32 × Int32))) (w : MW) (v3 v4 v6 t0 t1 : Int32) : Option (Int32 ⊕ (Int32 × Int32)) := bnd ((t1 + t0)) (fun y71 => (if ¬ v6 = (3 : Int32) then rec w v6 y71 ((0 : Int32)) ((v4 + (1 : Int32))) else bnd ((v3 + (1 : Int32))) (fun y85 => rec w v6 y71 y85 ((v4 + (1 : Int32))))))
def fX7_draftFault_L9 (n : Nat) : Nat → MW → Int32 → Int32 → Int32 → Int32 → Option (Int32 ⊕ (Int32 × Int32))
  | 0, _, _, _, _, _ => none
  | k + 1, w, v1, v2, v3, v4 => (if (w.1 1) ≤ v4 then some (Sum.inr (v1, v2)) else chk (inB v4 (mLen 2)) (bnd ((w.2 2 (v4).toNatClampNeg)) (fun y25 => bP (fX7_next v1 y25 v3 v2) (fun r32 => (if ¬ r32 = (-1 : Int32) then (if ¬ y25 = (40 : Int32) then (if ¬ y25 = (41 : Int32) then fX7_draftFault_J70 n (fX7_draftFault_L9 n k) w v3 v4 r32 (0 : Int32) v2 else fX7_draftFault_J70 n (fX7_draftFault_L9 n k) w v3 v4 r32 (-1 : Int32) v2) else fX7_draftFault_J70 n (fX7_draftFault_L9 n k) w v3 v4 r32 (1 : Int32) v2) else some (Sum.inl v4))))))
def fX7_draftFault_J121 (n : Nat) (w : MW) (v2 t0 : Int32) : Option Int32 := (if t0 = 0 then some (w.1 1) else (if ¬ v2 = 0 then some (w.1 1) else some (-1 : Int32)))
def fX7_draftFault_J116 (n : Nat) (w : MW) (v2 : Int32) : Option Int32 := fX7_draftFault_J121 n w v2 (1 : Int32)
def fX7_draftFault (n : Nat) (w : MW) : Option Int32 := bS2 (fX7_draftFault_L9 n n w (0 : Int32) (0 : Int32) (0 : Int32) (0 : Int32)) (fun rr => some rr) (fun x1_9 x2_9 => (if x1_9 = (3 : Int32) then fX7_draftFault_J116 n w x2_9 else (if x1_9 = (4 : Int32) then fX7_draftFault_J116 n w x2_9 else (if x1_9 = (5 : Int32) then fX7_draftFault_J116 n w x2_9 else (if ¬ x1_9 = (7 : Int32) then fX7_draftFault_J121 n w x2_9 (0 : Int32) else fX7_draftFault_J116 n w x2_9)))))
set_option maxRecDepth 100000 in
set_option maxHeartbeats 4000000 in
theorem sX7_draftFault_J70 {X : JX} {a : Nat} {ad : Nat → Nat} {cI cZ cO cJ : ClassId} {n : Nat} {w : MW} {post : Option Value → va_W → Prop} (hX : jOK X cX7_draftFault 7 wsX7_draftFault RX7 rmX7_draftFault) (hT : jT X = jTy cI cZ cO cJ) (hGX : jG X jG0) (hret : jRI X cX7_draftFault rmX7_draftFault post) {o : (Int32 ⊕ (Int32 × Int32))} {rec : MW → Int32 → Int32 → Int32 → Int32 → Option (Int32 ⊕ (Int32 × Int32))} (hrec : MW → ∀ (v1 v2 v3 v4 : Int32), rec w v1 v2 v3 v4 = some o → JW X 0 0 (mW a ad cI cZ w) 9 [(0, .ref a), (1, .int v1), (2, .int v2), (3, .int v3), (4, .int v4)] [])  (hex : ∀ (x1 x2 : Int32), o = .inr (x1, x2) → JW X 0 0 (mW a ad cI cZ w) 95 [(0, .ref a), (1, .int x1), (2, .int x2)] []) (hro : ∀ v9 : Int32, o = .inl v9 → post (some (.int v9)) (mW a ad cI cZ w)) {v3 v4 v6 t0 t1 : Int32} (h : fX7_draftFault_J70 n rec w v3 v4 v6 t0 t1 = some o) : JW X 0 0 (mW a ad cI cZ w) 70 [(0, .ref a), (3, .int v3), (4, .int v4), (6, .int v6)] [.int t0, .int t1] := by
  unfold fX7_draftFault_J70 at h
  refine jw_iadd hX dX7_draftFault_70 ?_
  refine jw_topi (fun y71 e71 => ?_)
  replace h := bnd_some h y71 e71
  clear e71
  refine jw_istore_n hX [(2, .int y71), (0, .ref a), (3, .int v3), (4, .int v4), (6, .int v6)] dX7_draftFault_71 rfl (by decide) rfl ?_
  refine jw_iload hX dX7_draftFault_72 4 rfl ?_
  refine jw_iconst (v := (3 : Int32)) hX dX7_draftFault_74 (by decide) ?_
  refine jw_icmp_ne (tgt := 84) hX dX7_draftFault_75 (by decide) (fun hc => ?_) (fun hc => ?_)
  · rw [if_pos hc] at h
    refine jw_iconst (v := (0 : Int32)) hX dX7_draftFault_84 (by decide) ?_
    refine jw_istore_n hX [(3, .int (0 : Int32)), (2, .int y71), (0, .ref a), (4, .int v4), (6, .int v6)] dX7_draftFault_85 rfl (by decide) rfl ?_
    refine jw_iload hX dX7_draftFault_86 4 rfl ?_
    refine jw_istore_n hX [(1, .int v6), (3, .int (0 : Int32)), (2, .int y71), (0, .ref a), (4, .int v4), (6, .int v6)] dX7_draftFault_88 rfl (by decide) rfl ?_
    refine jw_iinc (v := (v4 + (1 : Int32))) hX [(4, .int (v4 + (1 : Int32))), (1, .int v6), (3, .int (0 : Int32)), (2, .int y71), (0, .ref a), (6, .int v6)] dX7_draftFault_89 4 rfl (by first | rfl | (congr 1; decide)) (by decide) rfl ?_
    refine jw_goto (tgt := 9) hX dX7_draftFault_92 (by decide) ?_
    refine jw_sub [4, 1, 3, 2, 0] [(0, .ref a), (1, .int v6), (2, .int y71), (3, .int (0 : Int32)), (4, .int (v4 + (1 : Int32)))] rfl ?_
    exact hrec w _ _ _ _ h
  · rw [if_neg hc] at h
    refine jw_iload_n hX dX7_draftFault_78 rfl 2 rfl ?_
    refine jw_iconst (v := (1 : Int32)) hX dX7_draftFault_79 (by decide) ?_
    refine jw_iadd hX dX7_draftFault_80 ?_
    refine jw_goto (tgt := 85) hX dX7_draftFault_81 (by decide) ?_
    refine jw_topi (fun y85 e85 => ?_)
    replace h := bnd_some h y85 e85
    clear e85
    refine jw_istore_n hX [(3, .int y85), (2, .int y71), (0, .ref a), (4, .int v4), (6, .int v6)] dX7_draftFault_85 rfl (by decide) rfl ?_
    refine jw_iload hX dX7_draftFault_86 4 rfl ?_
    refine jw_istore_n hX [(1, .int v6), (3, .int y85), (2, .int y71), (0, .ref a), (4, .int v4), (6, .int v6)] dX7_draftFault_88 rfl (by decide) rfl ?_
    refine jw_iinc (v := (v4 + (1 : Int32))) hX [(4, .int (v4 + (1 : Int32))), (1, .int v6), (3, .int y85), (2, .int y71), (0, .ref a), (6, .int v6)] dX7_draftFault_89 4 rfl (by first | rfl | (congr 1; decide)) (by decide) rfl ?_
    refine jw_goto (tgt := 9) hX dX7_draftFault_92 (by decide) ?_
    refine jw_sub [4, 1, 3, 2, 0] [(0, .ref a), (1, .int v6), (2, .int y71), (3, .int y85), (4, .int (v4 + (1 : Int32)))] rfl ?_
    exact hrec w _ _ _ _ h
set_option maxRecDepth 100000 in
set_option maxHeartbeats 4000000 in
theorem sX7_draftFault_L9 {X : JX} {a : Nat} {ad : Nat → Nat} {cI cZ cO cJ : ClassId} {n : Nat} {w : MW} {post : Option Value → va_W → Prop} (hX : jOK X cX7_draftFault 7 wsX7_draftFault RX7 rmX7_draftFault) (hT : jT X = jTy cI cZ cO cJ) (hGX : jG X jG0) (hret : jRI X cX7_draftFault rmX7_draftFault post) {o : (Int32 ⊕ (Int32 × Int32))} (hex : ∀ (x1 x2 : Int32), o = .inr (x1, x2) → JW X 0 0 (mW a ad cI cZ w) 95 [(0, .ref a), (1, .int x1), (2, .int x2)] []) (hro : ∀ v9 : Int32, o = .inl v9 → post (some (.int v9)) (mW a ad cI cZ w)) : ∀ (k : Nat) (v1 v2 v3 v4 : Int32), fX7_draftFault_L9 n k w v1 v2 v3 v4 = some o → JW X 0 0 (mW a ad cI cZ w) 9 [(0, .ref a), (1, .int v1), (2, .int v2), (3, .int v3), (4, .int v4)] [] := by
  intro k
  induction k with
  | zero => intro v1 v2 v3 v4 h; cases h
  | succ k hrec0 =>
    intro v1 v2 v3 v4 h
    have hrec := fun (_ : MW) => hrec0
    unfold fX7_draftFault_L9 at h
    refine jw_iload hX dX7_draftFault_9 4 rfl ?_
    refine jw_aload_n hX dX7_draftFault_11 rfl 0 rfl ?_
    refine jw_mgetI hX hT inX7_draftFault 1 (by decide) lkX7_draftFault_133 rfl dX7_draftFault_12 ?_
    refine jw_icmp_ge (tgt := 95) hX dX7_draftFault_15 (by decide) (fun hc => ?_) (fun hc => ?_)
    · rw [if_pos hc] at h
      refine jw_sub [0, 1, 2] [(0, .ref a), (1, .int v1), (2, .int v2)] rfl ?_
      exact hex _ _ (Option.some.inj h).symm
    · rw [if_neg hc] at h
      refine jw_aload_n hX dX7_draftFault_18 rfl 0 rfl ?_
      refine jw_mgetA hX hT inX7_draftFault 2 (by decide) lkX7_draftFault_7 rfl dX7_draftFault_19 ?_
      refine jw_iload hX dX7_draftFault_22 4 rfl ?_
      obtain ⟨hb24, h⟩ := chk_some h
      refine jw_miald hX hT 0 2 rfl rfl hb24 dX7_draftFault_24 ?_
      refine jw_topi (fun y25 e25 => ?_)
      replace h := bnd_some h y25 e25
      clear e25
      refine jw_istore hX [(5, .int y25), (0, .ref a), (1, .int v1), (2, .int v2), (3, .int v3), (4, .int v4)] dX7_draftFault_25 (by decide) rfl ?_
      refine jw_iload_n hX dX7_draftFault_27 rfl 2 rfl ?_
      refine jw_iload hX dX7_draftFault_28 0 rfl ?_
      refine jw_iload_n hX dX7_draftFault_30 rfl 4 rfl ?_
      refine jw_iload_n hX dX7_draftFault_31 rfl 3 rfl ?_
      obtain ⟨r32, hc32, h⟩ := bP_some h
      refine jw_cSi (As := [.int v1, .int y25, .int v3, .int v2]) hX jG0_ok hGX 4 (kX7_next hT hc32) gX7_draftFault_X7_next rfl hdX7_next ⟨by decide, by decide⟩ rfl (by decide) dX7_draftFault_32 rfl rfl ⟨by decide, by decide⟩ ?_
      refine jw_istore hX [(6, .int r32), (5, .int y25), (0, .ref a), (1, .int v1), (2, .int v2), (3, .int v3), (4, .int v4)] dX7_draftFault_35 (by decide) rfl ?_
      refine jw_iload hX dX7_draftFault_37 0 rfl ?_
      refine jw_iconst (v := (-1 : Int32)) hX dX7_draftFault_39 (by decide) ?_
      refine jw_icmp_ne (tgt := 46) hX dX7_draftFault_40 (by decide) (fun hc => ?_) (fun hc => ?_)
      · rw [if_pos hc] at h
        refine jw_iload_n hX dX7_draftFault_46 rfl 4 rfl ?_
        refine jw_iload hX dX7_draftFault_47 1 rfl ?_
        refine jw_bipush (v := (40 : Int32)) hX dX7_draftFault_49 (by decide) ?_
        refine jw_icmp_ne (tgt := 58) hX dX7_draftFault_51 (by decide) (fun hc => ?_) (fun hc => ?_)
        · rw [if_pos hc] at h
          refine jw_iload hX dX7_draftFault_58 1 rfl ?_
          refine jw_bipush (v := (41 : Int32)) hX dX7_draftFault_60 (by decide) ?_
          refine jw_icmp_ne (tgt := 69) hX dX7_draftFault_62 (by decide) (fun hc => ?_) (fun hc => ?_)
          · rw [if_pos hc] at h
            refine jw_iconst (v := (0 : Int32)) hX dX7_draftFault_69 (by decide) ?_
            refine jw_sub [2, 5, 6, 0] [(0, .ref a), (3, .int v3), (4, .int v4), (6, .int r32)] rfl ?_
            exact sX7_draftFault_J70 hX hT hGX hret hrec hex hro h
          · rw [if_neg hc] at h
            refine jw_iconst (v := (-1 : Int32)) hX dX7_draftFault_65 (by decide) ?_
            refine jw_goto (tgt := 70) hX dX7_draftFault_66 (by decide) ?_
            refine jw_sub [2, 5, 6, 0] [(0, .ref a), (3, .int v3), (4, .int v4), (6, .int r32)] rfl ?_
            exact sX7_draftFault_J70 hX hT hGX hret hrec hex hro h
        · rw [if_neg hc] at h
          refine jw_iconst (v := (1 : Int32)) hX dX7_draftFault_54 (by decide) ?_
          refine jw_goto (tgt := 70) hX dX7_draftFault_55 (by decide) ?_
          refine jw_sub [2, 5, 6, 0] [(0, .ref a), (3, .int v3), (4, .int v4), (6, .int r32)] rfl ?_
          exact sX7_draftFault_J70 hX hT hGX hret hrec hex hro h
      · rw [if_neg hc] at h
        refine jw_iload hX dX7_draftFault_43 6 rfl ?_
        exact hret _ _ _ _ _ _ (Nat.zero_le _) (Nat.zero_le _) dX7_draftFault_45 (hro _ (Option.some.inj h).symm)
set_option maxRecDepth 100000 in
set_option maxHeartbeats 4000000 in
theorem sX7_draftFault_J121 {X : JX} {a : Nat} {ad : Nat → Nat} {cI cZ cO cJ : ClassId} {n : Nat} {w : MW} {post : Option Value → va_W → Prop} (hX : jOK X cX7_draftFault 7 wsX7_draftFault RX7 rmX7_draftFault) (hT : jT X = jTy cI cZ cO cJ) (hGX : jG X jG0) (hret : jRI X cX7_draftFault rmX7_draftFault post) {o : Int32}   (hro : ∀ v9 : Int32, o = v9 → post (some (.int v9)) (mW a ad cI cZ w)) {v2 t0 : Int32} (h : fX7_draftFault_J121 n w v2 t0 = some o) : JW X 0 0 (mW a ad cI cZ w) 121 [(0, .ref a), (2, .int v2)] [.int t0] := by
  unfold fX7_draftFault_J121 at h
  refine jw_istore hX [(4, .int t0), (0, .ref a), (2, .int v2)] dX7_draftFault_121 (by decide) rfl ?_
  refine jw_iload hX dX7_draftFault_123 0 rfl ?_
  refine jw_if_eq (tgt := 136) hX dX7_draftFault_125 (by decide) (fun hc => ?_) (fun hc => ?_)
  · rw [if_pos hc] at h
    refine jw_aload_n hX dX7_draftFault_136 rfl 1 rfl ?_
    refine jw_mgetI hX hT inX7_draftFault 1 (by decide) lkX7_draftFault_133 rfl dX7_draftFault_137 ?_
    exact hret _ _ _ _ _ _ (Nat.zero_le _) (Nat.zero_le _) dX7_draftFault_140 (hro _ (Option.some.inj h).symm)
  · rw [if_neg hc] at h
    refine jw_iload_n hX dX7_draftFault_128 rfl 2 rfl ?_
    refine jw_if_ne (tgt := 136) hX dX7_draftFault_129 (by decide) (fun hc => ?_) (fun hc => ?_)
    · rw [if_pos hc] at h
      refine jw_aload_n hX dX7_draftFault_136 rfl 1 rfl ?_
      refine jw_mgetI hX hT inX7_draftFault 1 (by decide) lkX7_draftFault_133 rfl dX7_draftFault_137 ?_
      exact hret _ _ _ _ _ _ (Nat.zero_le _) (Nat.zero_le _) dX7_draftFault_140 (hro _ (Option.some.inj h).symm)
    · rw [if_neg hc] at h
      refine jw_iconst (v := (-1 : Int32)) hX dX7_draftFault_132 (by decide) ?_
      refine jw_goto (tgt := 140) hX dX7_draftFault_133 (by decide) ?_
      exact hret _ _ _ _ _ _ (Nat.zero_le _) (Nat.zero_le _) dX7_draftFault_140 (hro _ (Option.some.inj h).symm)
set_option maxRecDepth 100000 in
set_option maxHeartbeats 4000000 in
theorem sX7_draftFault_J116 {X : JX} {a : Nat} {ad : Nat → Nat} {cI cZ cO cJ : ClassId} {n : Nat} {w : MW} {post : Option Value → va_W → Prop} (hX : jOK X cX7_draftFault 7 wsX7_draftFault RX7 rmX7_draftFault) (hT : jT X = jTy cI cZ cO cJ) (hGX : jG X jG0) (hret : jRI X cX7_draftFault rmX7_draftFault post) {o : Int32}   (hro : ∀ v9 : Int32, o = v9 → post (some (.int v9)) (mW a ad cI cZ w)) {v2 : Int32} (h : fX7_draftFault_J116 n w v2 = some o) : JW X 0 0 (mW a ad cI cZ w) 116 [(0, .ref a), (2, .int v2)] [] := by
  unfold fX7_draftFault_J116 at h
  refine jw_iconst (v := (1 : Int32)) hX dX7_draftFault_116 (by decide) ?_
  refine jw_goto (tgt := 121) hX dX7_draftFault_117 (by decide) ?_
  exact sX7_draftFault_J121 hX hT hGX hret hro h
set_option maxRecDepth 100000 in
set_option maxHeartbeats 4000000 in
theorem sX7_draftFault {X : JX} {a : Nat} {ad : Nat → Nat} {cI cZ cO cJ : ClassId} {n : Nat} {w : MW} {post : Option Value → va_W → Prop} (hX : jOK X cX7_draftFault 7 wsX7_draftFault RX7 rmX7_draftFault) (hT : jT X = jTy cI cZ cO cJ) (hGX : jG X jG0) (hret : jRI X cX7_draftFault rmX7_draftFault post) {o : Int32} (hro : ∀ v9 : Int32, o = v9 → post (some (.int v9)) (mW a ad cI cZ w)) (h : fX7_draftFault n w  = some o) : JW X 0 0 (mW a ad cI cZ w) 0 [(0, .ref a)] [] := by
  unfold fX7_draftFault at h
  refine jw_iconst (v := (0 : Int32)) hX dX7_draftFault_0 (by decide) ?_
  refine jw_istore_n hX [(1, .int (0 : Int32)), (0, .ref a)] dX7_draftFault_1 rfl (by decide) rfl ?_
  refine jw_iconst (v := (0 : Int32)) hX dX7_draftFault_2 (by decide) ?_
  refine jw_istore_n hX [(2, .int (0 : Int32)), (1, .int (0 : Int32)), (0, .ref a)] dX7_draftFault_3 rfl (by decide) rfl ?_
  refine jw_iconst (v := (0 : Int32)) hX dX7_draftFault_4 (by decide) ?_
  refine jw_istore_n hX [(3, .int (0 : Int32)), (2, .int (0 : Int32)), (1, .int (0 : Int32)), (0, .ref a)] dX7_draftFault_5 rfl (by decide) rfl ?_
  refine jw_iconst (v := (0 : Int32)) hX dX7_draftFault_6 (by decide) ?_
  refine jw_istore hX [(4, .int (0 : Int32)), (3, .int (0 : Int32)), (2, .int (0 : Int32)), (1, .int (0 : Int32)), (0, .ref a)] dX7_draftFault_7 (by decide) rfl ?_
  refine jw_sub [4, 3, 2, 1, 0] [(0, .ref a), (1, .int (0 : Int32)), (2, .int (0 : Int32)), (3, .int (0 : Int32)), (4, .int (0 : Int32))] rfl ?_
  rcases bS2_some h with ⟨rr, hl9, h⟩ | ⟨x1_9, x2_9, hl9, h⟩
  · refine sX7_draftFault_L9 hX hT hGX hret (o := .inl rr) (fun q0 q1 e9 => nomatch e9) (fun v9 e9 => ?_) n _ _ _ _ hl9
    cases e9
    exact hro _ (Option.some.inj h).symm
  · refine sX7_draftFault_L9 hX hT hGX hret (o := .inr (x1_9, x2_9)) (fun q0 q1 e9 => ?_) (fun v9 e9 => nomatch e9) n _ _ _ _ hl9
    cases e9
    refine jw_iload_n hX dX7_draftFault_95 rfl 1 rfl ?_
    refine jw_iconst (v := (3 : Int32)) hX dX7_draftFault_96 (by decide) ?_
    refine jw_icmp_eq (tgt := 116) hX dX7_draftFault_97 (by decide) (fun hc => ?_) (fun hc => ?_)
    · rw [if_pos hc] at h
      refine jw_sub [0, 2] [(0, .ref a), (2, .int x2_9)] rfl ?_
      exact sX7_draftFault_J116 hX hT hGX hret hro h
    · rw [if_neg hc] at h
      refine jw_iload_n hX dX7_draftFault_100 rfl 1 rfl ?_
      refine jw_iconst (v := (4 : Int32)) hX dX7_draftFault_101 (by decide) ?_
      refine jw_icmp_eq (tgt := 116) hX dX7_draftFault_102 (by decide) (fun hc => ?_) (fun hc => ?_)
      · rw [if_pos hc] at h
        refine jw_sub [0, 2] [(0, .ref a), (2, .int x2_9)] rfl ?_
        exact sX7_draftFault_J116 hX hT hGX hret hro h
      · rw [if_neg hc] at h
        refine jw_iload_n hX dX7_draftFault_105 rfl 1 rfl ?_
        refine jw_iconst (v := (5 : Int32)) hX dX7_draftFault_106 (by decide) ?_
        refine jw_icmp_eq (tgt := 116) hX dX7_draftFault_107 (by decide) (fun hc => ?_) (fun hc => ?_)
        · rw [if_pos hc] at h
          refine jw_sub [0, 2] [(0, .ref a), (2, .int x2_9)] rfl ?_
          exact sX7_draftFault_J116 hX hT hGX hret hro h
        · rw [if_neg hc] at h
          refine jw_iload_n hX dX7_draftFault_110 rfl 1 rfl ?_
          refine jw_bipush (v := (7 : Int32)) hX dX7_draftFault_111 (by decide) ?_
          refine jw_icmp_ne (tgt := 120) hX dX7_draftFault_113 (by decide) (fun hc => ?_) (fun hc => ?_)
          · rw [if_pos hc] at h
            refine jw_iconst (v := (0 : Int32)) hX dX7_draftFault_120 (by decide) ?_
            refine jw_sub [0, 2] [(0, .ref a), (2, .int x2_9)] rfl ?_
            exact sX7_draftFault_J121 hX hT hGX hret hro h
          · rw [if_neg hc] at h
            refine jw_sub [0, 2] [(0, .ref a), (2, .int x2_9)] rfl ?_
            exact sX7_draftFault_J116 hX hT hGX hret hro h
set_option maxRecDepth 100000 in
set_option maxHeartbeats 4000000 in
theorem kX7_draftFault {l : Launch} {D : va_G} {tys : List (ClassId × FieldType)} {a : Nat} {ad : Nat → Nat} {cI cZ cO cJ : ClassId} {n : Nat} {w : MW}  {r : Int32} (hT : tys = jTy cI cZ cO cJ) (h : fX7_draftFault n w  = some r) : CC l jG0 D tys yX7_draftFault wsX7_draftFault rmX7_draftFault [.ref a] (mW a ad cI cZ w) (fun ov w2 => ov = some (.int r) ∧ w2 = (mW a ad cI cZ w)) := by
  refine CC_of (cc := cX7_draftFault) (maxL := 7) (ret := (some .int)) (by decide) rfl (by decide) ?_
  intro X hD hL hT0 hGX hX rI rZ rV rA
  exact sX7_draftFault hX (hT0.trans hT) hGX (fun cells slots w9 pc lv v => rI cells slots w9 pc lv v rfl) (o := r) (fun v9 e9 => by cases e9; exact ⟨rfl, rfl⟩) h
/-! X7_putsSign -/
abbrev rmX7_putsSign : Room := { frames := 0, cells := 0, slots := 0, locals := 0 }
theorem hdX7_putsSign : yX7_putsSign.cls = RX7 ∧ yX7_putsSign.cls ≠ "java/lang/invoke/MethodHandle" ∧ yX7_putsSign.cls ≠ "java/lang/invoke/VarHandle" ∧ (parseMethodDescriptor yX7_putsSign.desc).map (fun d => d.parameters.length) = some 1 := by decide +kernel
theorem inX7_putsSign : ∀ w ∈ wsX70, w ∈ wsX7_putsSign := fun _ h => List.mem_cons_of_mem _ (List.mem_append_right _ h)
theorem lkX7_putsSign_107 : Cond.fieldLink RX7 107 "PostlintModel" (TX7 41).2.1 (TX7 41).2.2.1 ∈ wsX7_putsSign := by decide +kernel
theorem lkX7_putsSign_140 : Cond.fieldLink RX7 140 "PostlintModel" (TX7 40).2.1 (TX7 40).2.2.1 ∈ wsX7_putsSign := by decide +kernel
def fX7_putsSign (w : MW) (v1 : Int32) : Option MW := chk (inB (w.1 40) (mLen 41)) (bnd (mA w 41 ((w.1 40)).toNatClampNeg v1) (fun w9 => bnd (mS w9 40 ((w9.1 40) + (1 : Int32))) (fun w17 => some w17)))
set_option maxRecDepth 100000 in
set_option maxHeartbeats 4000000 in
theorem sX7_putsSign {X : JX} {a : Nat} {ad : Nat → Nat} {cI cZ cO cJ : ClassId} {post : Option Value → va_W → Prop} (hX : jOK X cX7_putsSign 2 wsX7_putsSign RX7 rmX7_putsSign) (hT : jT X = jTy cI cZ cO cJ) (hGX : jG X jG0) (hret : jRV X cX7_putsSign rmX7_putsSign post) {o : MW} (hro : ∀ w9 : MW, o = w9 → post none (mW a ad cI cZ w9)) {w : MW} {v1 : Int32} (h : fX7_putsSign w v1 = some o) : JW X 0 0 (mW a ad cI cZ w) 0 [(0, .ref a), (1, .int v1)] [] := by
  unfold fX7_putsSign at h
  refine jw_aload_n hX dX7_putsSign_0 rfl 0 rfl ?_
  refine jw_mgetA hX hT inX7_putsSign 41 (by decide) lkX7_putsSign_107 rfl dX7_putsSign_1 ?_
  refine jw_aload_n hX dX7_putsSign_4 rfl 0 rfl ?_
  refine jw_mgetI hX hT inX7_putsSign 40 (by decide) lkX7_putsSign_140 rfl dX7_putsSign_5 ?_
  refine jw_iload_n hX dX7_putsSign_8 rfl 1 rfl ?_
  obtain ⟨hb9, h⟩ := chk_some h
  refine jw_miast hX hT 32 41 rfl rfl hb9 dX7_putsSign_9 (fun w9 e9 => ?_)
  replace h := bnd_some h w9 e9
  clear e9
  refine jw_aload_n hX dX7_putsSign_10 rfl 0 rfl ?_
  refine jw_dup hX dX7_putsSign_11 rfl ?_
  refine jw_mgetI hX hT inX7_putsSign 40 (by decide) lkX7_putsSign_140 rfl dX7_putsSign_12 ?_
  refine jw_iconst (v := (1 : Int32)) hX dX7_putsSign_15 (by decide) ?_
  refine jw_iadd hX dX7_putsSign_16 ?_
  refine jw_mputI hX hT inX7_putsSign 40 (by decide) lkX7_putsSign_140 rfl dX7_putsSign_17 (fun w17 e17 => ?_)
  replace h := bnd_some h w17 e17
  clear e17
  exact hret _ _ _ _ _ (Nat.zero_le _) (Nat.zero_le _) dX7_putsSign_20 (hro _ (Option.some.inj h).symm)
set_option maxRecDepth 100000 in
set_option maxHeartbeats 4000000 in
theorem kX7_putsSign {l : Launch} {D : va_G} {tys : List (ClassId × FieldType)} {a : Nat} {ad : Nat → Nat} {cI cZ cO cJ : ClassId} {w : MW} {v1 : Int32} {w1 : MW} (hT : tys = jTy cI cZ cO cJ) (h : fX7_putsSign w v1 = some w1) : CC l jG0 D tys yX7_putsSign wsX7_putsSign rmX7_putsSign [.ref a, .int v1] (mW a ad cI cZ w) (fun ov w2 => ov = none ∧ w2 = (mW a ad cI cZ w1)) := by
  refine CC_of (cc := cX7_putsSign) (maxL := 2) (ret := none) (by decide) rfl (by decide) ?_
  intro X hD hL hT0 hGX hX rI rZ rV rA
  exact sX7_putsSign hX (hT0.trans hT) hGX (fun cells slots w9 pc lv => rV cells slots w9 pc lv rfl) (o := w1) (fun w9 e9 => by cases e9; exact ⟨rfl, rfl⟩) h
/-! X7_putsNumber -/
abbrev rmX7_putsNumber : Room := { frames := 1, cells := 0, slots := 0, locals := 21 }
theorem hdX7_putsNumber : yX7_putsNumber.cls = RX7 ∧ yX7_putsNumber.cls ≠ "java/lang/invoke/MethodHandle" ∧ yX7_putsNumber.cls ≠ "java/lang/invoke/VarHandle" ∧ (parseMethodDescriptor yX7_putsNumber.desc).map (fun d => d.parameters.length) = some 1 := by decide +kernel
def fX7_putsNumber_J37 (w : MW) (v1 : Int32) : Option MW := chk (nz (10 : Int32)) (bP (fX7_putsSign w ((48 : Int32) + (v1 - v1 / (10 : Int32) * (10 : Int32)))) (fun w45 => some w45))
def fX7_putsNumber_J17 (w : MW) (v1 : Int32) : Option MW := (if v1 ≤ (9 : Int32) then fX7_putsNumber_J37 w v1 else chk (nz (10 : Int32)) (chk (nz (10 : Int32)) (bP (fX7_putsSign w ((48 : Int32) + ((v1 / (10 : Int32)) - (v1 / (10 : Int32)) / (10 : Int32) * (10 : Int32)))) (fun w34 => fX7_putsNumber_J37 w34 v1))))
def fX7_putsNumber (w : MW) (v1 : Int32) : Option MW := (if v1 ≤ (99 : Int32) then fX7_putsNumber_J17 w v1 else chk (nz (100 : Int32)) (bP (fX7_putsSign w ((48 : Int32) + (v1 / (100 : Int32)))) (fun w14 => fX7_putsNumber_J17 w14 v1)))
set_option maxRecDepth 100000 in
set_option maxHeartbeats 4000000 in
theorem sX7_putsNumber_J37 {X : JX} {a : Nat} {ad : Nat → Nat} {cI cZ cO cJ : ClassId} {post : Option Value → va_W → Prop} (hX : jOK X cX7_putsNumber 2 wsX7_putsNumber RX7 rmX7_putsNumber) (hT : jT X = jTy cI cZ cO cJ) (hGX : jG X jG0) (hret : jRV X cX7_putsNumber rmX7_putsNumber post) {o : MW}   (hro : ∀ w9 : MW, o = w9 → post none (mW a ad cI cZ w9)) {w : MW} {v1 : Int32} (h : fX7_putsNumber_J37 w v1 = some o) : JW X 0 0 (mW a ad cI cZ w) 37 [(0, .ref a), (1, .int v1)] [] := by
  unfold fX7_putsNumber_J37 at h
  refine jw_aload_n hX dX7_putsNumber_37 rfl 0 rfl ?_
  refine jw_bipush (v := (48 : Int32)) hX dX7_putsNumber_38 (by decide) ?_
  refine jw_iload_n hX dX7_putsNumber_40 rfl 1 rfl ?_
  refine jw_bipush (v := (10 : Int32)) hX dX7_putsNumber_41 (by decide) ?_
  obtain ⟨hz43, h⟩ := chk_some h
  refine jw_irem hX dX7_putsNumber_43 (nz_ne hz43) ?_
  refine jw_iadd hX dX7_putsNumber_44 ?_
  obtain ⟨w45, hc45, h⟩ := bP_some h
  refine jw_cVv (As := [.int ((48 : Int32) + (v1 - v1 / (10 : Int32) * (10 : Int32)))]) hX jG0_ok hGX 1 (kX7_putsSign hT hc45) gX7_putsNumber_X7_putsSign rfl hdX7_putsSign ⟨by decide, by decide⟩ 0 7 rfl rfl rfl (by decide) dX7_putsNumber_45 rfl rfl ⟨by decide, by decide⟩ ?_
  exact hret _ _ _ _ _ (Nat.zero_le _) (Nat.zero_le _) dX7_putsNumber_48 (hro _ (Option.some.inj h).symm)
set_option maxRecDepth 100000 in
set_option maxHeartbeats 4000000 in
theorem sX7_putsNumber_J17 {X : JX} {a : Nat} {ad : Nat → Nat} {cI cZ cO cJ : ClassId} {post : Option Value → va_W → Prop} (hX : jOK X cX7_putsNumber 2 wsX7_putsNumber RX7 rmX7_putsNumber) (hT : jT X = jTy cI cZ cO cJ) (hGX : jG X jG0) (hret : jRV X cX7_putsNumber rmX7_putsNumber post) {o : MW}   (hro : ∀ w9 : MW, o = w9 → post none (mW a ad cI cZ w9)) {w : MW} {v1 : Int32} (h : fX7_putsNumber_J17 w v1 = some o) : JW X 0 0 (mW a ad cI cZ w) 17 [(0, .ref a), (1, .int v1)] [] := by
  unfold fX7_putsNumber_J17 at h
  refine jw_iload_n hX dX7_putsNumber_17 rfl 1 rfl ?_
  refine jw_bipush (v := (9 : Int32)) hX dX7_putsNumber_18 (by decide) ?_
  refine jw_icmp_le (tgt := 37) hX dX7_putsNumber_20 (by decide) (fun hc => ?_) (fun hc => ?_)
  · rw [if_pos hc] at h
    exact sX7_putsNumber_J37 hX hT hGX hret hro h
  · rw [if_neg hc] at h
    refine jw_aload_n hX dX7_putsNumber_23 rfl 0 rfl ?_
    refine jw_bipush (v := (48 : Int32)) hX dX7_putsNumber_24 (by decide) ?_
    refine jw_iload_n hX dX7_putsNumber_26 rfl 1 rfl ?_
    refine jw_bipush (v := (10 : Int32)) hX dX7_putsNumber_27 (by decide) ?_
    obtain ⟨hz29, h⟩ := chk_some h
    refine jw_idiv hX dX7_putsNumber_29 (nz_ne hz29) ?_
    refine jw_bipush (v := (10 : Int32)) hX dX7_putsNumber_30 (by decide) ?_
    obtain ⟨hz32, h⟩ := chk_some h
    refine jw_irem hX dX7_putsNumber_32 (nz_ne hz32) ?_
    refine jw_iadd hX dX7_putsNumber_33 ?_
    obtain ⟨w34, hc34, h⟩ := bP_some h
    refine jw_cVv (As := [.int ((48 : Int32) + ((v1 / (10 : Int32)) - (v1 / (10 : Int32)) / (10 : Int32) * (10 : Int32)))]) hX jG0_ok hGX 1 (kX7_putsSign hT hc34) gX7_putsNumber_X7_putsSign rfl hdX7_putsSign ⟨by decide, by decide⟩ 0 7 rfl rfl rfl (by decide) dX7_putsNumber_34 rfl rfl ⟨by decide, by decide⟩ ?_
    exact sX7_putsNumber_J37 hX hT hGX hret hro h
set_option maxRecDepth 100000 in
set_option maxHeartbeats 4000000 in
theorem sX7_putsNumber {X : JX} {a : Nat} {ad : Nat → Nat} {cI cZ cO cJ : ClassId} {post : Option Value → va_W → Prop} (hX : jOK X cX7_putsNumber 2 wsX7_putsNumber RX7 rmX7_putsNumber) (hT : jT X = jTy cI cZ cO cJ) (hGX : jG X jG0) (hret : jRV X cX7_putsNumber rmX7_putsNumber post) {o : MW} (hro : ∀ w9 : MW, o = w9 → post none (mW a ad cI cZ w9)) {w : MW} {v1 : Int32} (h : fX7_putsNumber w v1 = some o) : JW X 0 0 (mW a ad cI cZ w) 0 [(0, .ref a), (1, .int v1)] [] := by
  unfold fX7_putsNumber at h
  refine jw_iload_n hX dX7_putsNumber_0 rfl 1 rfl ?_
  refine jw_bipush (v := (99 : Int32)) hX dX7_putsNumber_1 (by decide) ?_
  refine jw_icmp_le (tgt := 17) hX dX7_putsNumber_3 (by decide) (fun hc => ?_) (fun hc => ?_)
  · rw [if_pos hc] at h
    exact sX7_putsNumber_J17 hX hT hGX hret hro h
  · rw [if_neg hc] at h
    refine jw_aload_n hX dX7_putsNumber_6 rfl 0 rfl ?_
    refine jw_bipush (v := (48 : Int32)) hX dX7_putsNumber_7 (by decide) ?_
    refine jw_iload_n hX dX7_putsNumber_9 rfl 1 rfl ?_
    refine jw_bipush (v := (100 : Int32)) hX dX7_putsNumber_10 (by decide) ?_
    obtain ⟨hz12, h⟩ := chk_some h
    refine jw_idiv hX dX7_putsNumber_12 (nz_ne hz12) ?_
    refine jw_iadd hX dX7_putsNumber_13 ?_
    obtain ⟨w14, hc14, h⟩ := bP_some h
    refine jw_cVv (As := [.int ((48 : Int32) + (v1 / (100 : Int32)))]) hX jG0_ok hGX 1 (kX7_putsSign hT hc14) gX7_putsNumber_X7_putsSign rfl hdX7_putsSign ⟨by decide, by decide⟩ 0 7 rfl rfl rfl (by decide) dX7_putsNumber_14 rfl rfl ⟨by decide, by decide⟩ ?_
    exact sX7_putsNumber_J17 hX hT hGX hret hro h
set_option maxRecDepth 100000 in
set_option maxHeartbeats 4000000 in
theorem kX7_putsNumber {l : Launch} {D : va_G} {tys : List (ClassId × FieldType)} {a : Nat} {ad : Nat → Nat} {cI cZ cO cJ : ClassId} {w : MW} {v1 : Int32} {w1 : MW} (hT : tys = jTy cI cZ cO cJ) (h : fX7_putsNumber w v1 = some w1) : CC l jG0 D tys yX7_putsNumber wsX7_putsNumber rmX7_putsNumber [.ref a, .int v1] (mW a ad cI cZ w) (fun ov w2 => ov = none ∧ w2 = (mW a ad cI cZ w1)) := by
  refine CC_of (cc := cX7_putsNumber) (maxL := 2) (ret := none) (by decide) rfl (by decide) ?_
  intro X hD hL hT0 hGX hX rI rZ rV rA
  exact sX7_putsNumber hX (hT0.trans hT) hGX (fun cells slots w9 pc lv => rV cells slots w9 pc lv rfl) (o := w1) (fun w9 e9 => by cases e9; exact ⟨rfl, rfl⟩) h
/-! X7_joins -/
abbrev rmX7_joins : Room := { frames := 0, cells := 0, slots := 0, locals := 0 }
theorem hdX7_joins : yX7_joins.cls = RX7 ∧ yX7_joins.cls ≠ "java/lang/invoke/MethodHandle" ∧ yX7_joins.cls ≠ "java/lang/invoke/VarHandle" ∧ (parseMethodDescriptor yX7_joins.desc).map (fun d => d.parameters.length) = some 2 := by decide +kernel
theorem inX7_joins : ∀ w ∈ wsX70, w ∈ wsX7_joins := fun _ h => List.mem_cons_of_mem _ (List.mem_append_right _ h)
theorem lkX7_joins_110 : Cond.fieldLink RX7 110 "PostlintModel" (TX7 42).2.1 (TX7 42).2.2.1 ∈ wsX7_joins := by decide +kernel
theorem lkX7_joins_113 : Cond.fieldLink RX7 113 "PostlintModel" (TX7 43).2.1 (TX7 43).2.2.1 ∈ wsX7_joins := by decide +kernel
def fX7_joins (w : MW) (v1 v2 : Int32) : Option MW := chk (inB v1 (mLen 42)) (chk (inB (((32 : Int32) * v1) + (w.2 42 (v1).toNatClampNeg)) (mLen 43)) (bnd (mA w 43 ((((32 : Int32) * v1) + (w.2 42 (v1).toNatClampNeg))).toNatClampNeg v2) (fun w16 => chk (inB v1 (mLen 42)) (chk (inB v1 (mLen 42)) (bnd (mA w16 42 (v1).toNatClampNeg ((w16.2 42 (v1).toNatClampNeg) + (1 : Int32))) (fun w26 => some w26))))))
set_option maxRecDepth 100000 in
set_option maxHeartbeats 4000000 in
theorem sX7_joins {X : JX} {a : Nat} {ad : Nat → Nat} {cI cZ cO cJ : ClassId} {post : Option Value → va_W → Prop} (hX : jOK X cX7_joins 3 wsX7_joins RX7 rmX7_joins) (hT : jT X = jTy cI cZ cO cJ) (hGX : jG X jG0) (hret : jRV X cX7_joins rmX7_joins post) {o : MW} (hro : ∀ w9 : MW, o = w9 → post none (mW a ad cI cZ w9)) {w : MW} {v1 v2 : Int32} (h : fX7_joins w v1 v2 = some o) : JW X 0 0 (mW a ad cI cZ w) 0 [(0, .ref a), (1, .int v1), (2, .int v2)] [] := by
  unfold fX7_joins at h
  refine jw_aload_n hX dX7_joins_0 rfl 0 rfl ?_
  refine jw_mgetA hX hT inX7_joins 43 (by decide) lkX7_joins_113 rfl dX7_joins_1 ?_
  refine jw_bipush (v := (32 : Int32)) hX dX7_joins_4 (by decide) ?_
  refine jw_iload_n hX dX7_joins_6 rfl 1 rfl ?_
  refine jw_imul hX dX7_joins_7 ?_
  refine jw_aload_n hX dX7_joins_8 rfl 0 rfl ?_
  refine jw_mgetA hX hT inX7_joins 42 (by decide) lkX7_joins_110 rfl dX7_joins_9 ?_
  refine jw_iload_n hX dX7_joins_12 rfl 1 rfl ?_
  obtain ⟨hb13, h⟩ := chk_some h
  refine jw_miald hX hT 33 42 rfl rfl hb13 dX7_joins_13 ?_
  refine jw_iadd hX dX7_joins_14 ?_
  refine jw_iload_n hX dX7_joins_15 rfl 2 rfl ?_
  obtain ⟨hb16, h⟩ := chk_some h
  refine jw_miast hX hT 34 43 rfl rfl hb16 dX7_joins_16 (fun w16 e16 => ?_)
  replace h := bnd_some h w16 e16
  clear e16
  refine jw_aload_n hX dX7_joins_17 rfl 0 rfl ?_
  refine jw_mgetA hX hT inX7_joins 42 (by decide) lkX7_joins_110 rfl dX7_joins_18 ?_
  refine jw_iload_n hX dX7_joins_21 rfl 1 rfl ?_
  refine jw_dup2 hX dX7_joins_22 rfl rfl ?_
  obtain ⟨hb23, h⟩ := chk_some h
  refine jw_miald hX hT 33 42 rfl rfl hb23 dX7_joins_23 ?_
  refine jw_iconst (v := (1 : Int32)) hX dX7_joins_24 (by decide) ?_
  refine jw_iadd hX dX7_joins_25 ?_
  obtain ⟨hb26, h⟩ := chk_some h
  refine jw_miast hX hT 33 42 rfl rfl hb26 dX7_joins_26 (fun w26 e26 => ?_)
  replace h := bnd_some h w26 e26
  clear e26
  exact hret _ _ _ _ _ (Nat.zero_le _) (Nat.zero_le _) dX7_joins_27 (hro _ (Option.some.inj h).symm)
set_option maxRecDepth 100000 in
set_option maxHeartbeats 4000000 in
theorem kX7_joins {l : Launch} {D : va_G} {tys : List (ClassId × FieldType)} {a : Nat} {ad : Nat → Nat} {cI cZ cO cJ : ClassId} {w : MW} {v1 v2 : Int32} {w1 : MW} (hT : tys = jTy cI cZ cO cJ) (h : fX7_joins w v1 v2 = some w1) : CC l jG0 D tys yX7_joins wsX7_joins rmX7_joins [.ref a, .int v1, .int v2] (mW a ad cI cZ w) (fun ov w2 => ov = none ∧ w2 = (mW a ad cI cZ w1)) := by
  refine CC_of (cc := cX7_joins) (maxL := 3) (ret := none) (by decide) rfl (by decide) ?_
  intro X hD hL hT0 hGX hX rI rZ rV rA
  exact sX7_joins hX (hT0.trans hT) hGX (fun cells slots w9 pc lv => rV cells slots w9 pc lv rfl) (o := w1) (fun w9 e9 => by cases e9; exact ⟨rfl, rfl⟩) h
/-! X7_begins -/
abbrev rmX7_begins : Room := { frames := 1, cells := 0, slots := 0, locals := 22 }
theorem hdX7_begins : yX7_begins.cls = RX7 ∧ yX7_begins.cls ≠ "java/lang/invoke/MethodHandle" ∧ yX7_begins.cls ≠ "java/lang/invoke/VarHandle" ∧ (parseMethodDescriptor yX7_begins.desc).map (fun d => d.parameters.length) = some 2 := by decide +kernel
theorem inX7_begins : ∀ w ∈ wsX70, w ∈ wsX7_begins := fun _ h => List.mem_cons_of_mem _ (List.mem_append_right _ h)
theorem lkX7_begins_101 : Cond.fieldLink RX7 101 "PostlintModel" (TX7 37).2.1 (TX7 37).2.2.1 ∈ wsX7_begins := by decide +kernel
theorem lkX7_begins_140 : Cond.fieldLink RX7 140 "PostlintModel" (TX7 40).2.1 (TX7 40).2.2.1 ∈ wsX7_begins := by decide +kernel
theorem lkX7_begins_147 : Cond.fieldLink RX7 147 "PostlintModel" (TX7 31).2.1 (TX7 31).2.2.1 ∈ wsX7_begins := by decide +kernel
theorem lkX7_begins_150 : Cond.fieldLink RX7 150 "PostlintModel" (TX7 38).2.1 (TX7 38).2.2.1 ∈ wsX7_begins := by decide +kernel
theorem lkX7_begins_86 : Cond.fieldLink RX7 86 "PostlintModel" (TX7 32).2.1 (TX7 32).2.2.1 ∈ wsX7_begins := by decide +kernel
theorem lkX7_begins_89 : Cond.fieldLink RX7 89 "PostlintModel" (TX7 33).2.1 (TX7 33).2.2.1 ∈ wsX7_begins := by decide +kernel
theorem lkX7_begins_92 : Cond.fieldLink RX7 92 "PostlintModel" (TX7 34).2.1 (TX7 34).2.2.1 ∈ wsX7_begins := by decide +kernel
theorem lkX7_begins_95 : Cond.fieldLink RX7 95 "PostlintModel" (TX7 35).2.1 (TX7 35).2.2.1 ∈ wsX7_begins := by decide +kernel
theorem lkX7_begins_98 : Cond.fieldLink RX7 98 "PostlintModel" (TX7 36).2.1 (TX7 36).2.2.1 ∈ wsX7_begins := by decide +kernel
def fX7_begins (w : MW) (v1 v2 : Int32) : Option (Int32 × MW) := bnd ((w.1 31)) (fun y4 => bnd (mS w 31 ((w.1 31) + (1 : Int32))) (fun w12 => chk (inB y4 (mLen 32)) (chk (b01 v2) (bnd (mA w12 32 (y4).toNatClampNeg v2) (fun w21 => chk (inB y4 (mLen 33)) (bnd (mA w21 33 (y4).toNatClampNeg (1 : Int32)) (fun w28 => chk (inB y4 (mLen 34)) (bnd (mA w28 34 (y4).toNatClampNeg (w28.1 40)) (fun w38 => chk (inB y4 (mLen 35)) (bnd (mA w38 35 (y4).toNatClampNeg (0 : Int32)) (fun w45 => chk (inB y4 (mLen 36)) (bnd (mA w45 36 (y4).toNatClampNeg (w45.1 38)) (fun w55 => chk (inB y4 (mLen 37)) (bnd (mA w55 37 (y4).toNatClampNeg (0 : Int32)) (fun w62 => bP (fX7_joins w62 v1 y4) (fun w66 => some (y4, w66)))))))))))))))))
set_option maxRecDepth 100000 in
set_option maxHeartbeats 4000000 in
theorem sX7_begins {X : JX} {a : Nat} {ad : Nat → Nat} {cI cZ cO cJ : ClassId} {post : Option Value → va_W → Prop} (hX : jOK X cX7_begins 4 wsX7_begins RX7 rmX7_begins) (hT : jT X = jTy cI cZ cO cJ) (hGX : jG X jG0) (hret : jRI X cX7_begins rmX7_begins post) {o : (Int32 × MW)} (hro : ∀ (v9 : Int32) (w9 : MW), o = (v9, w9) → post (some (.int v9)) (mW a ad cI cZ w9)) {w : MW} {v1 v2 : Int32} (h : fX7_begins w v1 v2 = some o) : JW X 0 0 (mW a ad cI cZ w) 0 [(0, .ref a), (1, .int v1), (2, .int v2)] [] := by
  unfold fX7_begins at h
  refine jw_aload_n hX dX7_begins_0 rfl 0 rfl ?_
  refine jw_mgetI hX hT inX7_begins 31 (by decide) lkX7_begins_147 rfl dX7_begins_1 ?_
  refine jw_topi (fun y4 e4 => ?_)
  replace h := bnd_some h y4 e4
  clear e4
  refine jw_istore_n hX [(3, .int y4), (0, .ref a), (1, .int v1), (2, .int v2)] dX7_begins_4 rfl (by decide) rfl ?_
  refine jw_aload_n hX dX7_begins_5 rfl 1 rfl ?_
  refine jw_dup hX dX7_begins_6 rfl ?_
  refine jw_mgetI hX hT inX7_begins 31 (by decide) lkX7_begins_147 rfl dX7_begins_7 ?_
  refine jw_iconst (v := (1 : Int32)) hX dX7_begins_10 (by decide) ?_
  refine jw_iadd hX dX7_begins_11 ?_
  refine jw_mputI hX hT inX7_begins 31 (by decide) lkX7_begins_147 rfl dX7_begins_12 (fun w12 e12 => ?_)
  replace h := bnd_some h w12 e12
  clear e12
  refine jw_aload_n hX dX7_begins_15 rfl 1 rfl ?_
  refine jw_mgetA hX hT inX7_begins 32 (by decide) lkX7_begins_86 rfl dX7_begins_16 ?_
  refine jw_iload_n hX dX7_begins_19 rfl 0 rfl ?_
  refine jw_iload_n hX dX7_begins_20 rfl 3 rfl ?_
  obtain ⟨hb21, h⟩ := chk_some h
  obtain ⟨hz21, h⟩ := chk_some h
  refine jw_mzast hX hT 25 32 rfl rfl hb21 hz21 dX7_begins_21 (fun w21 e21 => ?_)
  replace h := bnd_some h w21 e21
  clear e21
  refine jw_aload_n hX dX7_begins_22 rfl 1 rfl ?_
  refine jw_mgetA hX hT inX7_begins 33 (by decide) lkX7_begins_89 rfl dX7_begins_23 ?_
  refine jw_iload_n hX dX7_begins_26 rfl 0 rfl ?_
  refine jw_iconst (v := (1 : Int32)) hX dX7_begins_27 (by decide) ?_
  obtain ⟨hb28, h⟩ := chk_some h
  refine jw_miast hX hT 26 33 rfl rfl hb28 dX7_begins_28 (fun w28 e28 => ?_)
  replace h := bnd_some h w28 e28
  clear e28
  refine jw_aload_n hX dX7_begins_29 rfl 1 rfl ?_
  refine jw_mgetA hX hT inX7_begins 34 (by decide) lkX7_begins_92 rfl dX7_begins_30 ?_
  refine jw_iload_n hX dX7_begins_33 rfl 0 rfl ?_
  refine jw_aload_n hX dX7_begins_34 rfl 1 rfl ?_
  refine jw_mgetI hX hT inX7_begins 40 (by decide) lkX7_begins_140 rfl dX7_begins_35 ?_
  obtain ⟨hb38, h⟩ := chk_some h
  refine jw_miast hX hT 27 34 rfl rfl hb38 dX7_begins_38 (fun w38 e38 => ?_)
  replace h := bnd_some h w38 e38
  clear e38
  refine jw_aload_n hX dX7_begins_39 rfl 1 rfl ?_
  refine jw_mgetA hX hT inX7_begins 35 (by decide) lkX7_begins_95 rfl dX7_begins_40 ?_
  refine jw_iload_n hX dX7_begins_43 rfl 0 rfl ?_
  refine jw_iconst (v := (0 : Int32)) hX dX7_begins_44 (by decide) ?_
  obtain ⟨hb45, h⟩ := chk_some h
  refine jw_miast hX hT 28 35 rfl rfl hb45 dX7_begins_45 (fun w45 e45 => ?_)
  replace h := bnd_some h w45 e45
  clear e45
  refine jw_aload_n hX dX7_begins_46 rfl 1 rfl ?_
  refine jw_mgetA hX hT inX7_begins 36 (by decide) lkX7_begins_98 rfl dX7_begins_47 ?_
  refine jw_iload_n hX dX7_begins_50 rfl 0 rfl ?_
  refine jw_aload_n hX dX7_begins_51 rfl 1 rfl ?_
  refine jw_mgetI hX hT inX7_begins 38 (by decide) lkX7_begins_150 rfl dX7_begins_52 ?_
  obtain ⟨hb55, h⟩ := chk_some h
  refine jw_miast hX hT 29 36 rfl rfl hb55 dX7_begins_55 (fun w55 e55 => ?_)
  replace h := bnd_some h w55 e55
  clear e55
  refine jw_aload_n hX dX7_begins_56 rfl 1 rfl ?_
  refine jw_mgetA hX hT inX7_begins 37 (by decide) lkX7_begins_101 rfl dX7_begins_57 ?_
  refine jw_iload_n hX dX7_begins_60 rfl 0 rfl ?_
  refine jw_iconst (v := (0 : Int32)) hX dX7_begins_61 (by decide) ?_
  obtain ⟨hb62, h⟩ := chk_some h
  refine jw_miast hX hT 30 37 rfl rfl hb62 dX7_begins_62 (fun w62 e62 => ?_)
  replace h := bnd_some h w62 e62
  clear e62
  refine jw_aload_n hX dX7_begins_63 rfl 1 rfl ?_
  refine jw_iload_n hX dX7_begins_64 rfl 2 rfl ?_
  refine jw_iload_n hX dX7_begins_65 rfl 0 rfl ?_
  obtain ⟨w66, hc66, h⟩ := bP_some h
  refine jw_cVv (As := [.int v1, .int y4]) hX jG0_ok hGX 2 (kX7_joins hT hc66) gX7_begins_X7_joins rfl hdX7_joins ⟨by decide, by decide⟩ 0 7 rfl rfl rfl (by decide) dX7_begins_66 rfl rfl ⟨by decide, by decide⟩ ?_
  refine jw_iload_n hX dX7_begins_69 rfl 0 rfl ?_
  exact hret _ _ _ _ _ _ (Nat.zero_le _) (Nat.zero_le _) dX7_begins_70 (hro _ _ (Option.some.inj h).symm)
set_option maxRecDepth 100000 in
set_option maxHeartbeats 4000000 in
theorem kX7_begins {l : Launch} {D : va_G} {tys : List (ClassId × FieldType)} {a : Nat} {ad : Nat → Nat} {cI cZ cO cJ : ClassId} {w : MW} {v1 v2 : Int32} {r : Int32} {w1 : MW} (hT : tys = jTy cI cZ cO cJ) (h : fX7_begins w v1 v2 = some (r, w1)) : CC l jG0 D tys yX7_begins wsX7_begins rmX7_begins [.ref a, .int v1, .int v2] (mW a ad cI cZ w) (fun ov w2 => ov = some (.int r) ∧ w2 = (mW a ad cI cZ w1)) := by
  refine CC_of (cc := cX7_begins) (maxL := 4) (ret := (some .int)) (by decide) rfl (by decide) ?_
  intro X hD hL hT0 hGX hX rI rZ rV rA
  exact sX7_begins hX (hT0.trans hT) hGX (fun cells slots w9 pc lv v => rI cells slots w9 pc lv v rfl) (o := (r, w1)) (fun v9 w9 e9 => by cases e9; exact ⟨rfl, rfl⟩) h
/-! X7_putsItem -/
abbrev rmX7_putsItem : Room := { frames := 1, cells := 0, slots := 0, locals := 21 }
theorem hdX7_putsItem : yX7_putsItem.cls = RX7 ∧ yX7_putsItem.cls ≠ "java/lang/invoke/MethodHandle" ∧ yX7_putsItem.cls ≠ "java/lang/invoke/VarHandle" ∧ (parseMethodDescriptor yX7_putsItem.desc).map (fun d => d.parameters.length) = some 1 := by decide +kernel
theorem inX7_putsItem : ∀ w ∈ wsX70, w ∈ wsX7_putsItem := fun _ h => List.mem_cons_of_mem _ (List.mem_append_right _ h)
theorem lkX7_putsItem_107 : Cond.fieldLink RX7 107 "PostlintModel" (TX7 41).2.1 (TX7 41).2.2.1 ∈ wsX7_putsItem := by decide +kernel
theorem lkX7_putsItem_92 : Cond.fieldLink RX7 92 "PostlintModel" (TX7 34).2.1 (TX7 34).2.2.1 ∈ wsX7_putsItem := by decide +kernel
theorem lkX7_putsItem_95 : Cond.fieldLink RX7 95 "PostlintModel" (TX7 35).2.1 (TX7 35).2.2.1 ∈ wsX7_putsItem := by decide +kernel
def fX7_putsItem_L2 (n : Nat) : Nat → MW → Int32 → Int32 → Option (MW)
  | 0, _, _, _ => none
  | k + 1, w, v1, v2 => chk (inB v1 (mLen 35)) ((if (w.2 35 (v1).toNatClampNeg) ≤ v2 then some (w) else chk (inB v1 (mLen 34)) (chk (inB ((w.2 34 (v1).toNatClampNeg) + v2) (mLen 41)) (bP (fX7_putsSign w (w.2 41 (((w.2 34 (v1).toNatClampNeg) + v2)).toNatClampNeg)) (fun w26 => fX7_putsItem_L2 n k w26 v1 ((v2 + (1 : Int32))))))))
def fX7_putsItem (n : Nat) (w : MW) (v1 : Int32) : Option MW := bL1 (fX7_putsItem_L2 n n w v1 (0 : Int32)) (fun wx2 => some wx2)
set_option maxRecDepth 100000 in
set_option maxHeartbeats 4000000 in
theorem sX7_putsItem_L2 {X : JX} {a : Nat} {ad : Nat → Nat} {cI cZ cO cJ : ClassId} {n : Nat} {post : Option Value → va_W → Prop} (hX : jOK X cX7_putsItem 3 wsX7_putsItem RX7 rmX7_putsItem) (hT : jT X = jTy cI cZ cO cJ) (hGX : jG X jG0) (hret : jRV X cX7_putsItem rmX7_putsItem post) {o : (MW)} (hex : ∀ (w9 : MW), o = w9 → JW X 0 0 (mW a ad cI cZ w9) 35 [] [])  : ∀ (k : Nat) (w : MW) (v1 v2 : Int32), fX7_putsItem_L2 n k w v1 v2 = some o → JW X 0 0 (mW a ad cI cZ w) 2 [(0, .ref a), (1, .int v1), (2, .int v2)] [] := by
  intro k
  induction k with
  | zero => intro w v1 v2 h; cases h
  | succ k hrec0 =>
    intro w v1 v2 h
    have hrec := hrec0
    unfold fX7_putsItem_L2 at h
    refine jw_iload_n hX dX7_putsItem_2 rfl 2 rfl ?_
    refine jw_aload_n hX dX7_putsItem_3 rfl 0 rfl ?_
    refine jw_mgetA hX hT inX7_putsItem 35 (by decide) lkX7_putsItem_95 rfl dX7_putsItem_4 ?_
    refine jw_iload_n hX dX7_putsItem_7 rfl 1 rfl ?_
    obtain ⟨hb8, h⟩ := chk_some h
    refine jw_miald hX hT 28 35 rfl rfl hb8 dX7_putsItem_8 ?_
    refine jw_icmp_ge (tgt := 35) hX dX7_putsItem_9 (by decide) (fun hc => ?_) (fun hc => ?_)
    · rw [if_pos hc] at h
      refine jw_sub [] [] rfl ?_
      exact hex _ (Option.some.inj h).symm
    · rw [if_neg hc] at h
      refine jw_aload_n hX dX7_putsItem_12 rfl 0 rfl ?_
      refine jw_aload_n hX dX7_putsItem_13 rfl 0 rfl ?_
      refine jw_mgetA hX hT inX7_putsItem 41 (by decide) lkX7_putsItem_107 rfl dX7_putsItem_14 ?_
      refine jw_aload_n hX dX7_putsItem_17 rfl 0 rfl ?_
      refine jw_mgetA hX hT inX7_putsItem 34 (by decide) lkX7_putsItem_92 rfl dX7_putsItem_18 ?_
      refine jw_iload_n hX dX7_putsItem_21 rfl 1 rfl ?_
      obtain ⟨hb22, h⟩ := chk_some h
      refine jw_miald hX hT 27 34 rfl rfl hb22 dX7_putsItem_22 ?_
      refine jw_iload_n hX dX7_putsItem_23 rfl 2 rfl ?_
      refine jw_iadd hX dX7_putsItem_24 ?_
      obtain ⟨hb25, h⟩ := chk_some h
      refine jw_miald hX hT 32 41 rfl rfl hb25 dX7_putsItem_25 ?_
      obtain ⟨w26, hc26, h⟩ := bP_some h
      refine jw_cVv (As := [.int (w.2 41 (((w.2 34 (v1).toNatClampNeg) + v2)).toNatClampNeg)]) hX jG0_ok hGX 1 (kX7_putsSign hT hc26) gX7_putsItem_X7_putsSign rfl hdX7_putsSign ⟨by decide, by decide⟩ 0 7 rfl rfl rfl (by decide) dX7_putsItem_26 rfl rfl ⟨by decide, by decide⟩ ?_
      refine jw_iinc (v := (v2 + (1 : Int32))) hX [(2, .int (v2 + (1 : Int32))), (0, .ref a), (1, .int v1)] dX7_putsItem_29 2 rfl (by first | rfl | (congr 1; decide)) (by decide) rfl ?_
      refine jw_goto (tgt := 2) hX dX7_putsItem_32 (by decide) ?_
      refine jw_sub [1, 2, 0] [(0, .ref a), (1, .int v1), (2, .int (v2 + (1 : Int32)))] rfl ?_
      exact hrec _ _ _ h
set_option maxRecDepth 100000 in
set_option maxHeartbeats 4000000 in
theorem sX7_putsItem {X : JX} {a : Nat} {ad : Nat → Nat} {cI cZ cO cJ : ClassId} {n : Nat} {post : Option Value → va_W → Prop} (hX : jOK X cX7_putsItem 3 wsX7_putsItem RX7 rmX7_putsItem) (hT : jT X = jTy cI cZ cO cJ) (hGX : jG X jG0) (hret : jRV X cX7_putsItem rmX7_putsItem post) {o : MW} (hro : ∀ w9 : MW, o = w9 → post none (mW a ad cI cZ w9)) {w : MW} {v1 : Int32} (h : fX7_putsItem n w v1 = some o) : JW X 0 0 (mW a ad cI cZ w) 0 [(0, .ref a), (1, .int v1)] [] := by
  unfold fX7_putsItem at h
  refine jw_iconst (v := (0 : Int32)) hX dX7_putsItem_0 (by decide) ?_
  refine jw_istore_n hX [(2, .int (0 : Int32)), (0, .ref a), (1, .int v1)] dX7_putsItem_1 rfl (by decide) rfl ?_
  refine jw_sub [1, 2, 0] [(0, .ref a), (1, .int v1), (2, .int (0 : Int32))] rfl ?_
  obtain ⟨wx2, hl2, h⟩ := bL1_some h
  refine sX7_putsItem_L2 hX hT hGX hret (o := wx2) (fun q0 e9 => ?_) n _ _ _ hl2
  cases e9
  exact hret _ _ _ _ _ (Nat.zero_le _) (Nat.zero_le _) dX7_putsItem_35 (hro _ (Option.some.inj h).symm)
set_option maxRecDepth 100000 in
set_option maxHeartbeats 4000000 in
theorem kX7_putsItem {l : Launch} {D : va_G} {tys : List (ClassId × FieldType)} {a : Nat} {ad : Nat → Nat} {cI cZ cO cJ : ClassId} {n : Nat} {w : MW} {v1 : Int32} {w1 : MW} (hT : tys = jTy cI cZ cO cJ) (h : fX7_putsItem n w v1 = some w1) : CC l jG0 D tys yX7_putsItem wsX7_putsItem rmX7_putsItem [.ref a, .int v1] (mW a ad cI cZ w) (fun ov w2 => ov = none ∧ w2 = (mW a ad cI cZ w1)) := by
  refine CC_of (cc := cX7_putsItem) (maxL := 3) (ret := none) (by decide) rfl (by decide) ?_
  intro X hD hL hT0 hGX hX rI rZ rV rA
  exact sX7_putsItem hX (hT0.trans hT) hGX (fun cells slots w9 pc lv => rV cells slots w9 pc lv rfl) (o := w1) (fun w9 e9 => by cases e9; exact ⟨rfl, rfl⟩) h
/-! X7_closes -/
abbrev rmX7_closes : Room := { frames := 2, cells := 0, slots := 0, locals := 45 }
theorem hdX7_closes : yX7_closes.cls = RX7 ∧ yX7_closes.cls ≠ "java/lang/invoke/MethodHandle" ∧ yX7_closes.cls ≠ "java/lang/invoke/VarHandle" ∧ (parseMethodDescriptor yX7_closes.desc).map (fun d => d.parameters.length) = some 2 := by decide +kernel
theorem inX7_closes : ∀ w ∈ wsX70, w ∈ wsX7_closes := fun _ h => List.mem_cons_of_mem _ (List.mem_append_right _ h)
theorem lkX7_closes_101 : Cond.fieldLink RX7 101 "PostlintModel" (TX7 37).2.1 (TX7 37).2.2.1 ∈ wsX7_closes := by decide +kernel
theorem lkX7_closes_104 : Cond.fieldLink RX7 104 "PostlintModel" (TX7 39).2.1 (TX7 39).2.2.1 ∈ wsX7_closes := by decide +kernel
theorem lkX7_closes_110 : Cond.fieldLink RX7 110 "PostlintModel" (TX7 42).2.1 (TX7 42).2.2.1 ∈ wsX7_closes := by decide +kernel
theorem lkX7_closes_113 : Cond.fieldLink RX7 113 "PostlintModel" (TX7 43).2.1 (TX7 43).2.2.1 ∈ wsX7_closes := by decide +kernel
theorem lkX7_closes_140 : Cond.fieldLink RX7 140 "PostlintModel" (TX7 40).2.1 (TX7 40).2.2.1 ∈ wsX7_closes := by decide +kernel
theorem lkX7_closes_150 : Cond.fieldLink RX7 150 "PostlintModel" (TX7 38).2.1 (TX7 38).2.2.1 ∈ wsX7_closes := by decide +kernel
theorem lkX7_closes_86 : Cond.fieldLink RX7 86 "PostlintModel" (TX7 32).2.1 (TX7 32).2.2.1 ∈ wsX7_closes := by decide +kernel
theorem lkX7_closes_89 : Cond.fieldLink RX7 89 "PostlintModel" (TX7 33).2.1 (TX7 33).2.2.1 ∈ wsX7_closes := by decide +kernel
theorem lkX7_closes_92 : Cond.fieldLink RX7 92 "PostlintModel" (TX7 34).2.1 (TX7 34).2.2.1 ∈ wsX7_closes := by decide +kernel
theorem lkX7_closes_95 : Cond.fieldLink RX7 95 "PostlintModel" (TX7 35).2.1 (TX7 35).2.2.1 ∈ wsX7_closes := by decide +kernel
theorem lkX7_closes_98 : Cond.fieldLink RX7 98 "PostlintModel" (TX7 36).2.1 (TX7 36).2.2.1 ∈ wsX7_closes := by decide +kernel
def fX7_closes_J171 (n : Nat) (rec : MW → Int32 → Int32 → Int32 → Int32 → Int32 → Int32 → Int32 → Option (Int32 × Int32 × Int32 × Int32 × Int32 × Int32 × MW)) (w : MW) (v1 v2 v4 v5 v6 v7 v8 t0 t1 : Int32) : Option (Int32 × Int32 × Int32 × Int32 × Int32 × Int32 × MW) := chk (inB t1 (mLen 39)) (bnd (mA w 39 (t1).toNatClampNeg t0) (fun w171 => bnd (mS w171 38 ((w171.1 38) + (1 : Int32))) (fun w179 => rec w179 v1 v2 v4 v5 v6 v7 ((v8 + (1 : Int32))))))
def fX7_closes_L121 (n : Nat) : Nat → MW → Int32 → Int32 → Int32 → Int32 → Int32 → Int32 → Int32 → Option (Int32 × Int32 × Int32 × Int32 × Int32 × Int32 × MW)
  | 0, _, _, _, _, _, _, _, _ => none
  | k + 1, w, v1, v2, v4, v5, v6, v7, v8 => (if v7 ≤ v8 then some (v1, v2, v4, v5, v6, v7, w) else (if v5 = 0 then chk (inB (((32 : Int32) * v1) + v8) (mLen 43)) (fX7_closes_J171 n (fX7_closes_L121 n k) w v1 v2 v4 v5 v6 v7 v8 (w.2 43 ((((32 : Int32) * v1) + v8)).toNatClampNeg) (w.1 38)) else chk (inB v4 (mLen 36)) (chk (inB ((w.2 36 (v4).toNatClampNeg) + v8) (mLen 39)) (fX7_closes_J171 n (fX7_closes_L121 n k) w v1 v2 v4 v5 v6 v7 v8 (w.2 39 (((w.2 36 (v4).toNatClampNeg) + v8)).toNatClampNeg) (w.1 38)))))
def fX7_closes_J268 (n : Nat) (rec : MW → Int32 → Int32 → Int32 → Int32 → Option (Int32 × MW)) (w : MW) (v6 v7 v8 v9 : Int32) : Option (Int32 × MW) := chk (inB (v6 + v9) (mLen 39)) (bP (fX7_putsItem n w (w.2 39 ((v6 + v9)).toNatClampNeg)) (fun w279 => rec w279 v6 v7 v8 ((v9 + (1 : Int32)))))
def fX7_closes_L250 (n : Nat) : Nat → MW → Int32 → Int32 → Int32 → Int32 → Option (Int32 × MW)
  | 0, _, _, _, _, _ => none
  | k + 1, w, v6, v7, v8, v9 => (if v7 ≤ v9 then some (v8, w) else (if v9 ≤ 0 then fX7_closes_J268 n (fX7_closes_L250 n k) w v6 v7 v8 v9 else bP (fX7_putsSign w (32 : Int32)) (fun w265 => fX7_closes_J268 n (fX7_closes_L250 n k) w265 v6 v7 v8 v9)))
def fX7_closes_J240 (n : Nat) (w : MW) (v6 v7 v8 t0 t1 : Int32) : Option MW := chk (inB t1 (mLen 33)) (bnd (mA w 33 (t1).toNatClampNeg t0) (fun w240 => bP (fX7_putsSign w240 (40 : Int32)) (fun w244 => bL2 (fX7_closes_L250 n n w244 v6 v7 v8 (0 : Int32)) (fun x8_250 wx250 => bP (fX7_putsSign wx250 (41 : Int32)) (fun w291 => bP (fX7_putsSign w291 (120 : Int32)) (fun w297 => chk (inB x8_250 (mLen 33)) (bP (fX7_putsNumber w297 (w297.2 33 (x8_250).toNatClampNeg)) (fun w308 => chk (inB x8_250 (mLen 34)) (chk (inB x8_250 (mLen 35)) (bnd (mA w308 35 (x8_250).toNatClampNeg ((w308.1 40) - (w308.2 34 (x8_250).toNatClampNeg))) (fun w329 => some w329)))))))))))
def fX7_closes_J116 (n : Nat) (w : MW) (v1 v2 v4 v5 v6 t0 : Int32) : Option MW := bL7 (fX7_closes_L121 n n w v1 v2 v4 v5 v6 t0 (0 : Int32)) (fun x1_121 x2_121 x4_121 x5_121 x6_121 x7_121 wx121 => b2 (fX7_begins wx121 (x1_121 - (1 : Int32)) (1 : Int32)) (fun r193 w193 => chk (inB r193 (mLen 36)) (bnd (mA w193 36 (r193).toNatClampNeg x6_121) (fun w206 => chk (inB r193 (mLen 37)) (bnd (mA w206 37 (r193).toNatClampNeg x7_121) (fun w215 => (if x5_121 = 0 then fX7_closes_J240 n w215 x6_121 x7_121 r193 x2_121 r193 else chk (inB x4_121 (mLen 33)) (fX7_closes_J240 n w215 x6_121 x7_121 r193 ((w215.2 33 (x4_121).toNatClampNeg) * x2_121) r193))))))))
def fX7_closes_J92 (n : Nat) (w : MW) (v1 v2 v3 v4 t0 : Int32) : Option MW := bnd ((w.1 38)) (fun y98 => (if t0 = 0 then fX7_closes_J116 n w v1 v2 v4 t0 y98 v3 else chk (inB v4 (mLen 37)) (fX7_closes_J116 n w v1 v2 v4 t0 y98 (w.2 37 (v4).toNatClampNeg))))
def fX7_closes_J91 (n : Nat) (w : MW) (v1 v2 v3 v4 : Int32) : Option MW := fX7_closes_J92 n w v1 v2 v3 v4 (0 : Int32)
def fX7_closes_L26 (n : Nat) : Nat → MW → Int32 → Int32 → Int32 → Option (MW)
  | 0, _, _, _, _ => none
  | k + 1, w, v1, v3, v5 => (if v3 ≤ v5 then some (w) else chk (inB (((32 : Int32) * v1) + v5) (mLen 43)) (bP (fX7_joins w (v1 - (1 : Int32)) (w.2 43 ((((32 : Int32) * v1) + v5)).toNatClampNeg)) (fun w48 => fX7_closes_L26 n k w48 v1 v3 ((v5 + (1 : Int32))))))
def fX7_closes (n : Nat) (w : MW) (v1 v2 : Int32) : Option MW := chk (inB v1 (mLen 42)) (bnd ((w.2 42 (v1).toNatClampNeg)) (fun y6 => chk (inB ((32 : Int32) * v1) (mLen 43)) (bnd ((w.2 43 (((32 : Int32) * v1)).toNatClampNeg)) (fun y16 => (if ¬ v2 = (1 : Int32) then (if ¬ y6 = (1 : Int32) then fX7_closes_J91 n w v1 v2 y6 y16 else chk (inB y16 (mLen 32)) ((if (w.2 32 (y16).toNatClampNeg) = 0 then fX7_closes_J91 n w v1 v2 y6 y16 else chk (inB y16 (mLen 33)) ((if (9 : Int32) < ((w.2 33 (y16).toNatClampNeg) * v2) then fX7_closes_J91 n w v1 v2 y6 y16 else fX7_closes_J92 n w v1 v2 y6 y16 (1 : Int32)))))) else bL1 (fX7_closes_L26 n n w v1 y6 (0 : Int32)) (fun wx26 => some wx26))))))
set_option maxRecDepth 100000 in
set_option maxHeartbeats 4000000 in
theorem sX7_closes_J171 {X : JX} {a : Nat} {ad : Nat → Nat} {cI cZ cO cJ : ClassId} {n : Nat} {post : Option Value → va_W → Prop} (hX : jOK X cX7_closes 10 wsX7_closes RX7 rmX7_closes) (hT : jT X = jTy cI cZ cO cJ) (hGX : jG X jG0) (hret : jRV X cX7_closes rmX7_closes post) {o : (Int32 × Int32 × Int32 × Int32 × Int32 × Int32 × MW)} {rec : MW → Int32 → Int32 → Int32 → Int32 → Int32 → Int32 → Int32 → Option (Int32 × Int32 × Int32 × Int32 × Int32 × Int32 × MW)} (hrec : ∀ (w : MW) (v1 v2 v4 v5 v6 v7 v8 : Int32), rec w v1 v2 v4 v5 v6 v7 v8 = some o → JW X 0 0 (mW a ad cI cZ w) 121 [(0, .ref a), (1, .int v1), (2, .int v2), (4, .int v4), (5, .int v5), (6, .int v6), (7, .int v7), (8, .int v8)] [])  (hex : ∀ (x1 x2 x4 x5 x6 x7 : Int32) (w9 : MW), o = (x1, x2, x4, x5, x6, x7, w9) → JW X 0 0 (mW a ad cI cZ w9) 188 [(0, .ref a), (1, .int x1), (2, .int x2), (4, .int x4), (5, .int x5), (6, .int x6), (7, .int x7)] [])  {w : MW} {v1 v2 v4 v5 v6 v7 v8 t0 t1 : Int32} (h : fX7_closes_J171 n rec w v1 v2 v4 v5 v6 v7 v8 t0 t1 = some o) : JW X 0 0 (mW a ad cI cZ w) 171 [(0, .ref a), (1, .int v1), (2, .int v2), (4, .int v4), (5, .int v5), (6, .int v6), (7, .int v7), (8, .int v8)] [.int t0, .int t1, .ref (ad 39)] := by
  unfold fX7_closes_J171 at h
  obtain ⟨hb171, h⟩ := chk_some h
  refine jw_miast hX hT 31 39 rfl rfl hb171 dX7_closes_171 (fun w171 e171 => ?_)
  replace h := bnd_some h w171 e171
  clear e171
  refine jw_aload_n hX dX7_closes_172 rfl 0 rfl ?_
  refine jw_dup hX dX7_closes_173 rfl ?_
  refine jw_mgetI hX hT inX7_closes 38 (by decide) lkX7_closes_150 rfl dX7_closes_174 ?_
  refine jw_iconst (v := (1 : Int32)) hX dX7_closes_177 (by decide) ?_
  refine jw_iadd hX dX7_closes_178 ?_
  refine jw_mputI hX hT inX7_closes 38 (by decide) lkX7_closes_150 rfl dX7_closes_179 (fun w179 e179 => ?_)
  replace h := bnd_some h w179 e179
  clear e179
  refine jw_iinc (v := (v8 + (1 : Int32))) hX [(8, .int (v8 + (1 : Int32))), (0, .ref a), (1, .int v1), (2, .int v2), (4, .int v4), (5, .int v5), (6, .int v6), (7, .int v7)] dX7_closes_182 7 rfl (by first | rfl | (congr 1; decide)) (by decide) rfl ?_
  refine jw_goto (tgt := 121) hX dX7_closes_185 (by decide) ?_
  refine jw_sub [1, 2, 3, 4, 5, 6, 7, 0] [(0, .ref a), (1, .int v1), (2, .int v2), (4, .int v4), (5, .int v5), (6, .int v6), (7, .int v7), (8, .int (v8 + (1 : Int32)))] rfl ?_
  exact hrec _ _ _ _ _ _ _ _ h
set_option maxRecDepth 100000 in
set_option maxHeartbeats 4000000 in
theorem sX7_closes_L121 {X : JX} {a : Nat} {ad : Nat → Nat} {cI cZ cO cJ : ClassId} {n : Nat} {post : Option Value → va_W → Prop} (hX : jOK X cX7_closes 10 wsX7_closes RX7 rmX7_closes) (hT : jT X = jTy cI cZ cO cJ) (hGX : jG X jG0) (hret : jRV X cX7_closes rmX7_closes post) {o : (Int32 × Int32 × Int32 × Int32 × Int32 × Int32 × MW)} (hex : ∀ (x1 x2 x4 x5 x6 x7 : Int32) (w9 : MW), o = (x1, x2, x4, x5, x6, x7, w9) → JW X 0 0 (mW a ad cI cZ w9) 188 [(0, .ref a), (1, .int x1), (2, .int x2), (4, .int x4), (5, .int x5), (6, .int x6), (7, .int x7)] [])  : ∀ (k : Nat) (w : MW) (v1 v2 v4 v5 v6 v7 v8 : Int32), fX7_closes_L121 n k w v1 v2 v4 v5 v6 v7 v8 = some o → JW X 0 0 (mW a ad cI cZ w) 121 [(0, .ref a), (1, .int v1), (2, .int v2), (4, .int v4), (5, .int v5), (6, .int v6), (7, .int v7), (8, .int v8)] [] := by
  intro k
  induction k with
  | zero => intro w v1 v2 v4 v5 v6 v7 v8 h; cases h
  | succ k hrec0 =>
    intro w v1 v2 v4 v5 v6 v7 v8 h
    have hrec := hrec0
    unfold fX7_closes_L121 at h
    refine jw_iload hX dX7_closes_121 7 rfl ?_
    refine jw_iload hX dX7_closes_123 6 rfl ?_
    refine jw_icmp_ge (tgt := 188) hX dX7_closes_125 (by decide) (fun hc => ?_) (fun hc => ?_)
    · rw [if_pos hc] at h
      refine jw_sub [0, 1, 2, 3, 4, 5, 6] [(0, .ref a), (1, .int v1), (2, .int v2), (4, .int v4), (5, .int v5), (6, .int v6), (7, .int v7)] rfl ?_
      exact hex _ _ _ _ _ _ _ (Option.some.inj h).symm
    · rw [if_neg hc] at h
      refine jw_aload_n hX dX7_closes_128 rfl 0 rfl ?_
      refine jw_mgetA hX hT inX7_closes 39 (by decide) lkX7_closes_104 rfl dX7_closes_129 ?_
      refine jw_aload_n hX dX7_closes_132 rfl 0 rfl ?_
      refine jw_mgetI hX hT inX7_closes 38 (by decide) lkX7_closes_150 rfl dX7_closes_133 ?_
      refine jw_iload hX dX7_closes_136 4 rfl ?_
      refine jw_if_eq (tgt := 159) hX dX7_closes_138 (by decide) (fun hc => ?_) (fun hc => ?_)
      · rw [if_pos hc] at h
        refine jw_aload_n hX dX7_closes_159 rfl 0 rfl ?_
        refine jw_mgetA hX hT inX7_closes 43 (by decide) lkX7_closes_113 rfl dX7_closes_160 ?_
        refine jw_bipush (v := (32 : Int32)) hX dX7_closes_163 (by decide) ?_
        refine jw_iload_n hX dX7_closes_165 rfl 1 rfl ?_
        refine jw_imul hX dX7_closes_166 ?_
        refine jw_iload hX dX7_closes_167 7 rfl ?_
        refine jw_iadd hX dX7_closes_169 ?_
        obtain ⟨hb170, h⟩ := chk_some h
        refine jw_miald hX hT 34 43 rfl rfl hb170 dX7_closes_170 ?_
        exact sX7_closes_J171 hX hT hGX hret hrec hex h
      · rw [if_neg hc] at h
        refine jw_aload_n hX dX7_closes_141 rfl 0 rfl ?_
        refine jw_mgetA hX hT inX7_closes 39 (by decide) lkX7_closes_104 rfl dX7_closes_142 ?_
        refine jw_aload_n hX dX7_closes_145 rfl 0 rfl ?_
        refine jw_mgetA hX hT inX7_closes 36 (by decide) lkX7_closes_98 rfl dX7_closes_146 ?_
        refine jw_iload hX dX7_closes_149 3 rfl ?_
        obtain ⟨hb151, h⟩ := chk_some h
        refine jw_miald hX hT 29 36 rfl rfl hb151 dX7_closes_151 ?_
        refine jw_iload hX dX7_closes_152 7 rfl ?_
        refine jw_iadd hX dX7_closes_154 ?_
        obtain ⟨hb155, h⟩ := chk_some h
        refine jw_miald hX hT 31 39 rfl rfl hb155 dX7_closes_155 ?_
        refine jw_goto (tgt := 171) hX dX7_closes_156 (by decide) ?_
        exact sX7_closes_J171 hX hT hGX hret hrec hex h
set_option maxRecDepth 100000 in
set_option maxHeartbeats 4000000 in
theorem sX7_closes_J268 {X : JX} {a : Nat} {ad : Nat → Nat} {cI cZ cO cJ : ClassId} {n : Nat} {post : Option Value → va_W → Prop} (hX : jOK X cX7_closes 10 wsX7_closes RX7 rmX7_closes) (hT : jT X = jTy cI cZ cO cJ) (hGX : jG X jG0) (hret : jRV X cX7_closes rmX7_closes post) {o : (Int32 × MW)} {rec : MW → Int32 → Int32 → Int32 → Int32 → Option (Int32 × MW)} (hrec : ∀ (w : MW) (v6 v7 v8 v9 : Int32), rec w v6 v7 v8 v9 = some o → JW X 0 0 (mW a ad cI cZ w) 250 [(0, .ref a), (6, .int v6), (7, .int v7), (8, .int v8), (9, .int v9)] [])  (hex : ∀ (x8 : Int32) (w9 : MW), o = (x8, w9) → JW X 0 0 (mW a ad cI cZ w9) 288 [(0, .ref a), (8, .int x8)] [])  {w : MW} {v6 v7 v8 v9 : Int32} (h : fX7_closes_J268 n rec w v6 v7 v8 v9 = some o) : JW X 0 0 (mW a ad cI cZ w) 268 [(0, .ref a), (6, .int v6), (7, .int v7), (8, .int v8), (9, .int v9)] [] := by
  unfold fX7_closes_J268 at h
  refine jw_aload_n hX dX7_closes_268 rfl 0 rfl ?_
  refine jw_aload_n hX dX7_closes_269 rfl 0 rfl ?_
  refine jw_mgetA hX hT inX7_closes 39 (by decide) lkX7_closes_104 rfl dX7_closes_270 ?_
  refine jw_iload hX dX7_closes_273 1 rfl ?_
  refine jw_iload hX dX7_closes_275 4 rfl ?_
  refine jw_iadd hX dX7_closes_277 ?_
  obtain ⟨hb278, h⟩ := chk_some h
  refine jw_miald hX hT 31 39 rfl rfl hb278 dX7_closes_278 ?_
  obtain ⟨w279, hc279, h⟩ := bP_some h
  refine jw_cVv (As := [.int (w.2 39 ((v6 + v9)).toNatClampNeg)]) hX jG0_ok hGX 1 (kX7_putsItem hT hc279) gX7_closes_X7_putsItem rfl hdX7_putsItem ⟨by decide, by decide⟩ 0 7 rfl rfl rfl (by decide) dX7_closes_279 rfl rfl ⟨by decide, by decide⟩ ?_
  refine jw_iinc (v := (v9 + (1 : Int32))) hX [(9, .int (v9 + (1 : Int32))), (0, .ref a), (6, .int v6), (7, .int v7), (8, .int v8)] dX7_closes_282 4 rfl (by first | rfl | (congr 1; decide)) (by decide) rfl ?_
  refine jw_goto (tgt := 250) hX dX7_closes_285 (by decide) ?_
  refine jw_sub [1, 2, 3, 4, 0] [(0, .ref a), (6, .int v6), (7, .int v7), (8, .int v8), (9, .int (v9 + (1 : Int32)))] rfl ?_
  exact hrec _ _ _ _ _ h
set_option maxRecDepth 100000 in
set_option maxHeartbeats 4000000 in
theorem sX7_closes_L250 {X : JX} {a : Nat} {ad : Nat → Nat} {cI cZ cO cJ : ClassId} {n : Nat} {post : Option Value → va_W → Prop} (hX : jOK X cX7_closes 10 wsX7_closes RX7 rmX7_closes) (hT : jT X = jTy cI cZ cO cJ) (hGX : jG X jG0) (hret : jRV X cX7_closes rmX7_closes post) {o : (Int32 × MW)} (hex : ∀ (x8 : Int32) (w9 : MW), o = (x8, w9) → JW X 0 0 (mW a ad cI cZ w9) 288 [(0, .ref a), (8, .int x8)] [])  : ∀ (k : Nat) (w : MW) (v6 v7 v8 v9 : Int32), fX7_closes_L250 n k w v6 v7 v8 v9 = some o → JW X 0 0 (mW a ad cI cZ w) 250 [(0, .ref a), (6, .int v6), (7, .int v7), (8, .int v8), (9, .int v9)] [] := by
  intro k
  induction k with
  | zero => intro w v6 v7 v8 v9 h; cases h
  | succ k hrec0 =>
    intro w v6 v7 v8 v9 h
    have hrec := hrec0
    unfold fX7_closes_L250 at h
    refine jw_iload hX dX7_closes_250 4 rfl ?_
    refine jw_iload hX dX7_closes_252 2 rfl ?_
    refine jw_icmp_ge (tgt := 288) hX dX7_closes_254 (by decide) (fun hc => ?_) (fun hc => ?_)
    · rw [if_pos hc] at h
      refine jw_sub [0, 3] [(0, .ref a), (8, .int v8)] rfl ?_
      exact hex _ _ (Option.some.inj h).symm
    · rw [if_neg hc] at h
      refine jw_iload hX dX7_closes_257 4 rfl ?_
      refine jw_if_le (tgt := 268) hX dX7_closes_259 (by decide) (fun hc => ?_) (fun hc => ?_)
      · rw [if_pos hc] at h
        exact sX7_closes_J268 hX hT hGX hret hrec hex h
      · rw [if_neg hc] at h
        refine jw_aload_n hX dX7_closes_262 rfl 0 rfl ?_
        refine jw_bipush (v := (32 : Int32)) hX dX7_closes_263 (by decide) ?_
        obtain ⟨w265, hc265, h⟩ := bP_some h
        refine jw_cVv (As := [.int (32 : Int32)]) hX jG0_ok hGX 1 (kX7_putsSign hT hc265) gX7_closes_X7_putsSign rfl hdX7_putsSign ⟨by decide, by decide⟩ 0 7 rfl rfl rfl (by decide) dX7_closes_265 rfl rfl ⟨by decide, by decide⟩ ?_
        exact sX7_closes_J268 hX hT hGX hret hrec hex h
set_option maxRecDepth 100000 in
set_option maxHeartbeats 4000000 in
theorem sX7_closes_J240 {X : JX} {a : Nat} {ad : Nat → Nat} {cI cZ cO cJ : ClassId} {n : Nat} {post : Option Value → va_W → Prop} (hX : jOK X cX7_closes 10 wsX7_closes RX7 rmX7_closes) (hT : jT X = jTy cI cZ cO cJ) (hGX : jG X jG0) (hret : jRV X cX7_closes rmX7_closes post) {o : MW}   (hro : ∀ w9 : MW, o = w9 → post none (mW a ad cI cZ w9)) {w : MW} {v6 v7 v8 t0 t1 : Int32} (h : fX7_closes_J240 n w v6 v7 v8 t0 t1 = some o) : JW X 0 0 (mW a ad cI cZ w) 240 [(0, .ref a), (6, .int v6), (7, .int v7), (8, .int v8)] [.int t0, .int t1, .ref (ad 33)] := by
  unfold fX7_closes_J240 at h
  obtain ⟨hb240, h⟩ := chk_some h
  refine jw_miast hX hT 26 33 rfl rfl hb240 dX7_closes_240 (fun w240 e240 => ?_)
  replace h := bnd_some h w240 e240
  clear e240
  refine jw_aload_n hX dX7_closes_241 rfl 0 rfl ?_
  refine jw_bipush (v := (40 : Int32)) hX dX7_closes_242 (by decide) ?_
  obtain ⟨w244, hc244, h⟩ := bP_some h
  refine jw_cVv (As := [.int (40 : Int32)]) hX jG0_ok hGX 1 (kX7_putsSign hT hc244) gX7_closes_X7_putsSign rfl hdX7_putsSign ⟨by decide, by decide⟩ 0 7 rfl rfl rfl (by decide) dX7_closes_244 rfl rfl ⟨by decide, by decide⟩ ?_
  refine jw_iconst (v := (0 : Int32)) hX dX7_closes_247 (by decide) ?_
  refine jw_istore hX [(9, .int (0 : Int32)), (0, .ref a), (6, .int v6), (7, .int v7), (8, .int v8)] dX7_closes_248 (by decide) rfl ?_
  refine jw_sub [1, 2, 3, 4, 0] [(0, .ref a), (6, .int v6), (7, .int v7), (8, .int v8), (9, .int (0 : Int32))] rfl ?_
  obtain ⟨x8_250, wx250, hl250, h⟩ := bL2_some h
  refine sX7_closes_L250 hX hT hGX hret (o := (x8_250, wx250)) (fun q0 q1 e9 => ?_) n _ _ _ _ _ hl250
  cases e9
  refine jw_aload_n hX dX7_closes_288 rfl 0 rfl ?_
  refine jw_bipush (v := (41 : Int32)) hX dX7_closes_289 (by decide) ?_
  obtain ⟨w291, hc291, h⟩ := bP_some h
  refine jw_cVv (As := [.int (41 : Int32)]) hX jG0_ok hGX 1 (kX7_putsSign hT hc291) gX7_closes_X7_putsSign rfl hdX7_putsSign ⟨by decide, by decide⟩ 0 7 rfl rfl rfl (by decide) dX7_closes_291 rfl rfl ⟨by decide, by decide⟩ ?_
  refine jw_aload_n hX dX7_closes_294 rfl 0 rfl ?_
  refine jw_bipush (v := (120 : Int32)) hX dX7_closes_295 (by decide) ?_
  obtain ⟨w297, hc297, h⟩ := bP_some h
  refine jw_cVv (As := [.int (120 : Int32)]) hX jG0_ok hGX 1 (kX7_putsSign hT hc297) gX7_closes_X7_putsSign rfl hdX7_putsSign ⟨by decide, by decide⟩ 0 7 rfl rfl rfl (by decide) dX7_closes_297 rfl rfl ⟨by decide, by decide⟩ ?_
  refine jw_aload_n hX dX7_closes_300 rfl 0 rfl ?_
  refine jw_aload_n hX dX7_closes_301 rfl 0 rfl ?_
  refine jw_mgetA hX hT inX7_closes 33 (by decide) lkX7_closes_89 rfl dX7_closes_302 ?_
  refine jw_iload hX dX7_closes_305 1 rfl ?_
  obtain ⟨hb307, h⟩ := chk_some h
  refine jw_miald hX hT 26 33 rfl rfl hb307 dX7_closes_307 ?_
  obtain ⟨w308, hc308, h⟩ := bP_some h
  refine jw_cVv (As := [.int (w297.2 33 (x8_250).toNatClampNeg)]) hX jG0_ok hGX 1 (kX7_putsNumber hT hc308) gX7_closes_X7_putsNumber rfl hdX7_putsNumber ⟨by decide, by decide⟩ 0 7 rfl rfl rfl (by decide) dX7_closes_308 rfl rfl ⟨by decide, by decide⟩ ?_
  refine jw_aload_n hX dX7_closes_311 rfl 0 rfl ?_
  refine jw_mgetA hX hT inX7_closes 35 (by decide) lkX7_closes_95 rfl dX7_closes_312 ?_
  refine jw_iload hX dX7_closes_315 1 rfl ?_
  refine jw_aload_n hX dX7_closes_317 rfl 0 rfl ?_
  refine jw_mgetI hX hT inX7_closes 40 (by decide) lkX7_closes_140 rfl dX7_closes_318 ?_
  refine jw_aload_n hX dX7_closes_321 rfl 0 rfl ?_
  refine jw_mgetA hX hT inX7_closes 34 (by decide) lkX7_closes_92 rfl dX7_closes_322 ?_
  refine jw_iload hX dX7_closes_325 1 rfl ?_
  obtain ⟨hb327, h⟩ := chk_some h
  refine jw_miald hX hT 27 34 rfl rfl hb327 dX7_closes_327 ?_
  refine jw_isub hX dX7_closes_328 ?_
  obtain ⟨hb329, h⟩ := chk_some h
  refine jw_miast hX hT 28 35 rfl rfl hb329 dX7_closes_329 (fun w329 e329 => ?_)
  replace h := bnd_some h w329 e329
  clear e329
  exact hret _ _ _ _ _ (Nat.zero_le _) (Nat.zero_le _) dX7_closes_330 (hro _ (Option.some.inj h).symm)
set_option maxRecDepth 100000 in
set_option maxHeartbeats 4000000 in
theorem sX7_closes_J116 {X : JX} {a : Nat} {ad : Nat → Nat} {cI cZ cO cJ : ClassId} {n : Nat} {post : Option Value → va_W → Prop} (hX : jOK X cX7_closes 10 wsX7_closes RX7 rmX7_closes) (hT : jT X = jTy cI cZ cO cJ) (hGX : jG X jG0) (hret : jRV X cX7_closes rmX7_closes post) {o : MW}   (hro : ∀ w9 : MW, o = w9 → post none (mW a ad cI cZ w9)) {w : MW} {v1 v2 v4 v5 v6 t0 : Int32} (h : fX7_closes_J116 n w v1 v2 v4 v5 v6 t0 = some o) : JW X 0 0 (mW a ad cI cZ w) 116 [(0, .ref a), (1, .int v1), (2, .int v2), (4, .int v4), (5, .int v5), (6, .int v6)] [.int t0] := by
  unfold fX7_closes_J116 at h
  refine jw_istore hX [(7, .int t0), (0, .ref a), (1, .int v1), (2, .int v2), (4, .int v4), (5, .int v5), (6, .int v6)] dX7_closes_116 (by decide) rfl ?_
  refine jw_iconst (v := (0 : Int32)) hX dX7_closes_118 (by decide) ?_
  refine jw_istore hX [(8, .int (0 : Int32)), (7, .int t0), (0, .ref a), (1, .int v1), (2, .int v2), (4, .int v4), (5, .int v5), (6, .int v6)] dX7_closes_119 (by decide) rfl ?_
  refine jw_sub [2, 3, 4, 5, 6, 7, 1, 0] [(0, .ref a), (1, .int v1), (2, .int v2), (4, .int v4), (5, .int v5), (6, .int v6), (7, .int t0), (8, .int (0 : Int32))] rfl ?_
  obtain ⟨x1_121, x2_121, x4_121, x5_121, x6_121, x7_121, wx121, hl121, h⟩ := bL7_some h
  refine sX7_closes_L121 hX hT hGX hret (o := (x1_121, x2_121, x4_121, x5_121, x6_121, x7_121, wx121)) (fun q0 q1 q2 q3 q4 q5 q6 e9 => ?_) n _ _ _ _ _ _ _ _ hl121
  cases e9
  refine jw_aload_n hX dX7_closes_188 rfl 0 rfl ?_
  refine jw_iload_n hX dX7_closes_189 rfl 1 rfl ?_
  refine jw_iconst (v := (1 : Int32)) hX dX7_closes_190 (by decide) ?_
  refine jw_isub hX dX7_closes_191 ?_
  refine jw_iconst (v := (1 : Int32)) hX dX7_closes_192 (by decide) ?_
  obtain ⟨r193, w193, hc193, h⟩ := b2_some h
  refine jw_cVi (As := [.int (x1_121 - (1 : Int32)), .int (1 : Int32)]) hX jG0_ok hGX 2 (kX7_begins hT hc193) gX7_closes_X7_begins rfl hdX7_begins ⟨by decide, by decide⟩ 0 7 rfl rfl rfl (by decide) dX7_closes_193 rfl rfl ⟨by decide, by decide⟩ ?_
  refine jw_istore hX [(8, .int r193), (0, .ref a), (1, .int x1_121), (2, .int x2_121), (4, .int x4_121), (5, .int x5_121), (6, .int x6_121), (7, .int x7_121)] dX7_closes_196 (by decide) rfl ?_
  refine jw_aload_n hX dX7_closes_198 rfl 1 rfl ?_
  refine jw_mgetA hX hT inX7_closes 36 (by decide) lkX7_closes_98 rfl dX7_closes_199 ?_
  refine jw_iload hX dX7_closes_202 0 rfl ?_
  refine jw_iload hX dX7_closes_204 6 rfl ?_
  obtain ⟨hb206, h⟩ := chk_some h
  refine jw_miast hX hT 29 36 rfl rfl hb206 dX7_closes_206 (fun w206 e206 => ?_)
  replace h := bnd_some h w206 e206
  clear e206
  refine jw_aload_n hX dX7_closes_207 rfl 1 rfl ?_
  refine jw_mgetA hX hT inX7_closes 37 (by decide) lkX7_closes_101 rfl dX7_closes_208 ?_
  refine jw_iload hX dX7_closes_211 0 rfl ?_
  refine jw_iload hX dX7_closes_213 7 rfl ?_
  obtain ⟨hb215, h⟩ := chk_some h
  refine jw_miast hX hT 30 37 rfl rfl hb215 dX7_closes_215 (fun w215 e215 => ?_)
  replace h := bnd_some h w215 e215
  clear e215
  refine jw_aload_n hX dX7_closes_216 rfl 1 rfl ?_
  refine jw_mgetA hX hT inX7_closes 33 (by decide) lkX7_closes_89 rfl dX7_closes_217 ?_
  refine jw_iload hX dX7_closes_220 0 rfl ?_
  refine jw_iload hX dX7_closes_222 5 rfl ?_
  refine jw_if_eq (tgt := 239) hX dX7_closes_224 (by decide) (fun hc => ?_) (fun hc => ?_)
  · rw [if_pos hc] at h
    refine jw_iload_n hX dX7_closes_239 rfl 3 rfl ?_
    refine jw_sub [1, 6, 7, 0] [(0, .ref a), (6, .int x6_121), (7, .int x7_121), (8, .int r193)] rfl ?_
    exact sX7_closes_J240 hX hT hGX hret hro h
  · rw [if_neg hc] at h
    refine jw_aload_n hX dX7_closes_227 rfl 1 rfl ?_
    refine jw_mgetA hX hT inX7_closes 33 (by decide) lkX7_closes_89 rfl dX7_closes_228 ?_
    refine jw_iload hX dX7_closes_231 4 rfl ?_
    obtain ⟨hb233, h⟩ := chk_some h
    refine jw_miald hX hT 26 33 rfl rfl hb233 dX7_closes_233 ?_
    refine jw_iload_n hX dX7_closes_234 rfl 3 rfl ?_
    refine jw_imul hX dX7_closes_235 ?_
    refine jw_goto (tgt := 240) hX dX7_closes_236 (by decide) ?_
    refine jw_sub [1, 6, 7, 0] [(0, .ref a), (6, .int x6_121), (7, .int x7_121), (8, .int r193)] rfl ?_
    exact sX7_closes_J240 hX hT hGX hret hro h
set_option maxRecDepth 100000 in
set_option maxHeartbeats 4000000 in
theorem sX7_closes_J92 {X : JX} {a : Nat} {ad : Nat → Nat} {cI cZ cO cJ : ClassId} {n : Nat} {post : Option Value → va_W → Prop} (hX : jOK X cX7_closes 10 wsX7_closes RX7 rmX7_closes) (hT : jT X = jTy cI cZ cO cJ) (hGX : jG X jG0) (hret : jRV X cX7_closes rmX7_closes post) {o : MW}   (hro : ∀ w9 : MW, o = w9 → post none (mW a ad cI cZ w9)) {w : MW} {v1 v2 v3 v4 t0 : Int32} (h : fX7_closes_J92 n w v1 v2 v3 v4 t0 = some o) : JW X 0 0 (mW a ad cI cZ w) 92 [(0, .ref a), (1, .int v1), (2, .int v2), (3, .int v3), (4, .int v4)] [.int t0] := by
  unfold fX7_closes_J92 at h
  refine jw_istore hX [(5, .int t0), (0, .ref a), (1, .int v1), (2, .int v2), (3, .int v3), (4, .int v4)] dX7_closes_92 (by decide) rfl ?_
  refine jw_aload_n hX dX7_closes_94 rfl 1 rfl ?_
  refine jw_mgetI hX hT inX7_closes 38 (by decide) lkX7_closes_150 rfl dX7_closes_95 ?_
  refine jw_topi (fun y98 e98 => ?_)
  replace h := bnd_some h y98 e98
  clear e98
  refine jw_istore hX [(6, .int y98), (5, .int t0), (0, .ref a), (1, .int v1), (2, .int v2), (3, .int v3), (4, .int v4)] dX7_closes_98 (by decide) rfl ?_
  refine jw_iload hX dX7_closes_100 1 rfl ?_
  refine jw_if_eq (tgt := 115) hX dX7_closes_102 (by decide) (fun hc => ?_) (fun hc => ?_)
  · rw [if_pos hc] at h
    refine jw_iload_n hX dX7_closes_115 rfl 5 rfl ?_
    refine jw_sub [2, 3, 4, 6, 1, 0] [(0, .ref a), (1, .int v1), (2, .int v2), (4, .int v4), (5, .int t0), (6, .int y98)] rfl ?_
    exact sX7_closes_J116 hX hT hGX hret hro h
  · rw [if_neg hc] at h
    refine jw_aload_n hX dX7_closes_105 rfl 2 rfl ?_
    refine jw_mgetA hX hT inX7_closes 37 (by decide) lkX7_closes_101 rfl dX7_closes_106 ?_
    refine jw_iload hX dX7_closes_109 6 rfl ?_
    obtain ⟨hb111, h⟩ := chk_some h
    refine jw_miald hX hT 30 37 rfl rfl hb111 dX7_closes_111 ?_
    refine jw_goto (tgt := 116) hX dX7_closes_112 (by decide) ?_
    refine jw_sub [2, 3, 4, 6, 1, 0] [(0, .ref a), (1, .int v1), (2, .int v2), (4, .int v4), (5, .int t0), (6, .int y98)] rfl ?_
    exact sX7_closes_J116 hX hT hGX hret hro h
set_option maxRecDepth 100000 in
set_option maxHeartbeats 4000000 in
theorem sX7_closes_J91 {X : JX} {a : Nat} {ad : Nat → Nat} {cI cZ cO cJ : ClassId} {n : Nat} {post : Option Value → va_W → Prop} (hX : jOK X cX7_closes 10 wsX7_closes RX7 rmX7_closes) (hT : jT X = jTy cI cZ cO cJ) (hGX : jG X jG0) (hret : jRV X cX7_closes rmX7_closes post) {o : MW}   (hro : ∀ w9 : MW, o = w9 → post none (mW a ad cI cZ w9)) {w : MW} {v1 v2 v3 v4 : Int32} (h : fX7_closes_J91 n w v1 v2 v3 v4 = some o) : JW X 0 0 (mW a ad cI cZ w) 91 [(0, .ref a), (1, .int v1), (2, .int v2), (3, .int v3), (4, .int v4)] [] := by
  unfold fX7_closes_J91 at h
  refine jw_iconst (v := (0 : Int32)) hX dX7_closes_91 (by decide) ?_
  exact sX7_closes_J92 hX hT hGX hret hro h
set_option maxRecDepth 100000 in
set_option maxHeartbeats 4000000 in
theorem sX7_closes_L26 {X : JX} {a : Nat} {ad : Nat → Nat} {cI cZ cO cJ : ClassId} {n : Nat} {post : Option Value → va_W → Prop} (hX : jOK X cX7_closes 10 wsX7_closes RX7 rmX7_closes) (hT : jT X = jTy cI cZ cO cJ) (hGX : jG X jG0) (hret : jRV X cX7_closes rmX7_closes post) {o : (MW)} (hex : ∀ (w9 : MW), o = w9 → JW X 0 0 (mW a ad cI cZ w9) 57 [] [])  : ∀ (k : Nat) (w : MW) (v1 v3 v5 : Int32), fX7_closes_L26 n k w v1 v3 v5 = some o → JW X 0 0 (mW a ad cI cZ w) 26 [(0, .ref a), (1, .int v1), (3, .int v3), (5, .int v5)] [] := by
  intro k
  induction k with
  | zero => intro w v1 v3 v5 h; cases h
  | succ k hrec0 =>
    intro w v1 v3 v5 h
    have hrec := hrec0
    unfold fX7_closes_L26 at h
    refine jw_iload hX dX7_closes_26 3 rfl ?_
    refine jw_iload_n hX dX7_closes_28 rfl 2 rfl ?_
    refine jw_icmp_ge (tgt := 57) hX dX7_closes_29 (by decide) (fun hc => ?_) (fun hc => ?_)
    · rw [if_pos hc] at h
      refine jw_sub [] [] rfl ?_
      exact hex _ (Option.some.inj h).symm
    · rw [if_neg hc] at h
      refine jw_aload_n hX dX7_closes_32 rfl 0 rfl ?_
      refine jw_iload_n hX dX7_closes_33 rfl 1 rfl ?_
      refine jw_iconst (v := (1 : Int32)) hX dX7_closes_34 (by decide) ?_
      refine jw_isub hX dX7_closes_35 ?_
      refine jw_aload_n hX dX7_closes_36 rfl 0 rfl ?_
      refine jw_mgetA hX hT inX7_closes 43 (by decide) lkX7_closes_113 rfl dX7_closes_37 ?_
      refine jw_bipush (v := (32 : Int32)) hX dX7_closes_40 (by decide) ?_
      refine jw_iload_n hX dX7_closes_42 rfl 1 rfl ?_
      refine jw_imul hX dX7_closes_43 ?_
      refine jw_iload hX dX7_closes_44 3 rfl ?_
      refine jw_iadd hX dX7_closes_46 ?_
      obtain ⟨hb47, h⟩ := chk_some h
      refine jw_miald hX hT 34 43 rfl rfl hb47 dX7_closes_47 ?_
      obtain ⟨w48, hc48, h⟩ := bP_some h
      refine jw_cVv (As := [.int (v1 - (1 : Int32)), .int (w.2 43 ((((32 : Int32) * v1) + v5)).toNatClampNeg)]) hX jG0_ok hGX 2 (kX7_joins hT hc48) gX7_closes_X7_joins rfl hdX7_joins ⟨by decide, by decide⟩ 0 7 rfl rfl rfl (by decide) dX7_closes_48 rfl rfl ⟨by decide, by decide⟩ ?_
      refine jw_iinc (v := (v5 + (1 : Int32))) hX [(5, .int (v5 + (1 : Int32))), (0, .ref a), (1, .int v1), (3, .int v3)] dX7_closes_51 3 rfl (by first | rfl | (congr 1; decide)) (by decide) rfl ?_
      refine jw_goto (tgt := 26) hX dX7_closes_54 (by decide) ?_
      refine jw_sub [1, 2, 3, 0] [(0, .ref a), (1, .int v1), (3, .int v3), (5, .int (v5 + (1 : Int32)))] rfl ?_
      exact hrec _ _ _ _ h
set_option maxRecDepth 100000 in
set_option maxHeartbeats 4000000 in
theorem sX7_closes {X : JX} {a : Nat} {ad : Nat → Nat} {cI cZ cO cJ : ClassId} {n : Nat} {post : Option Value → va_W → Prop} (hX : jOK X cX7_closes 10 wsX7_closes RX7 rmX7_closes) (hT : jT X = jTy cI cZ cO cJ) (hGX : jG X jG0) (hret : jRV X cX7_closes rmX7_closes post) {o : MW} (hro : ∀ w9 : MW, o = w9 → post none (mW a ad cI cZ w9)) {w : MW} {v1 v2 : Int32} (h : fX7_closes n w v1 v2 = some o) : JW X 0 0 (mW a ad cI cZ w) 0 [(0, .ref a), (1, .int v1), (2, .int v2)] [] := by
  unfold fX7_closes at h
  refine jw_aload_n hX dX7_closes_0 rfl 0 rfl ?_
  refine jw_mgetA hX hT inX7_closes 42 (by decide) lkX7_closes_110 rfl dX7_closes_1 ?_
  refine jw_iload_n hX dX7_closes_4 rfl 1 rfl ?_
  obtain ⟨hb5, h⟩ := chk_some h
  refine jw_miald hX hT 33 42 rfl rfl hb5 dX7_closes_5 ?_
  refine jw_topi (fun y6 e6 => ?_)
  replace h := bnd_some h y6 e6
  clear e6
  refine jw_istore_n hX [(3, .int y6), (0, .ref a), (1, .int v1), (2, .int v2)] dX7_closes_6 rfl (by decide) rfl ?_
  refine jw_aload_n hX dX7_closes_7 rfl 1 rfl ?_
  refine jw_mgetA hX hT inX7_closes 43 (by decide) lkX7_closes_113 rfl dX7_closes_8 ?_
  refine jw_bipush (v := (32 : Int32)) hX dX7_closes_11 (by decide) ?_
  refine jw_iload_n hX dX7_closes_13 rfl 2 rfl ?_
  refine jw_imul hX dX7_closes_14 ?_
  obtain ⟨hb15, h⟩ := chk_some h
  refine jw_miald hX hT 34 43 rfl rfl hb15 dX7_closes_15 ?_
  refine jw_topi (fun y16 e16 => ?_)
  replace h := bnd_some h y16 e16
  clear e16
  refine jw_istore hX [(4, .int y16), (3, .int y6), (0, .ref a), (1, .int v1), (2, .int v2)] dX7_closes_16 (by decide) rfl ?_
  refine jw_iload_n hX dX7_closes_18 rfl 4 rfl ?_
  refine jw_iconst (v := (1 : Int32)) hX dX7_closes_19 (by decide) ?_
  refine jw_icmp_ne (tgt := 58) hX dX7_closes_20 (by decide) (fun hc => ?_) (fun hc => ?_)
  · rw [if_pos hc] at h
    refine jw_iload_n hX dX7_closes_58 rfl 1 rfl ?_
    refine jw_iconst (v := (1 : Int32)) hX dX7_closes_59 (by decide) ?_
    refine jw_icmp_ne (tgt := 91) hX dX7_closes_60 (by decide) (fun hc => ?_) (fun hc => ?_)
    · rw [if_pos hc] at h
      refine jw_sub [2, 3, 4, 1, 0] [(0, .ref a), (1, .int v1), (2, .int v2), (3, .int y6), (4, .int y16)] rfl ?_
      exact sX7_closes_J91 hX hT hGX hret hro h
    · rw [if_neg hc] at h
      refine jw_aload_n hX dX7_closes_63 rfl 2 rfl ?_
      refine jw_mgetA hX hT inX7_closes 32 (by decide) lkX7_closes_86 rfl dX7_closes_64 ?_
      refine jw_iload hX dX7_closes_67 0 rfl ?_
      obtain ⟨hb69, h⟩ := chk_some h
      refine jw_mzald hX hT 25 32 rfl rfl hb69 dX7_closes_69 ?_
      refine jw_if_eq (tgt := 91) hX dX7_closes_70 (by decide) (fun hc => ?_) (fun hc => ?_)
      · rw [if_pos hc] at h
        refine jw_sub [2, 3, 4, 1, 0] [(0, .ref a), (1, .int v1), (2, .int v2), (3, .int y6), (4, .int y16)] rfl ?_
        exact sX7_closes_J91 hX hT hGX hret hro h
      · rw [if_neg hc] at h
        refine jw_aload_n hX dX7_closes_73 rfl 2 rfl ?_
        refine jw_mgetA hX hT inX7_closes 33 (by decide) lkX7_closes_89 rfl dX7_closes_74 ?_
        refine jw_iload hX dX7_closes_77 0 rfl ?_
        obtain ⟨hb79, h⟩ := chk_some h
        refine jw_miald hX hT 26 33 rfl rfl hb79 dX7_closes_79 ?_
        refine jw_iload_n hX dX7_closes_80 rfl 4 rfl ?_
        refine jw_imul hX dX7_closes_81 ?_
        refine jw_bipush (v := (9 : Int32)) hX dX7_closes_82 (by decide) ?_
        refine jw_icmp_gt (tgt := 91) hX dX7_closes_84 (by decide) (fun hc => ?_) (fun hc => ?_)
        · rw [if_pos hc] at h
          refine jw_sub [2, 3, 4, 1, 0] [(0, .ref a), (1, .int v1), (2, .int v2), (3, .int y6), (4, .int y16)] rfl ?_
          exact sX7_closes_J91 hX hT hGX hret hro h
        · rw [if_neg hc] at h
          refine jw_iconst (v := (1 : Int32)) hX dX7_closes_87 (by decide) ?_
          refine jw_goto (tgt := 92) hX dX7_closes_88 (by decide) ?_
          refine jw_sub [2, 3, 4, 1, 0] [(0, .ref a), (1, .int v1), (2, .int v2), (3, .int y6), (4, .int y16)] rfl ?_
          exact sX7_closes_J92 hX hT hGX hret hro h
  · rw [if_neg hc] at h
    refine jw_iconst (v := (0 : Int32)) hX dX7_closes_23 (by decide) ?_
    refine jw_istore hX [(5, .int (0 : Int32)), (4, .int y16), (3, .int y6), (0, .ref a), (1, .int v1), (2, .int v2)] dX7_closes_24 (by decide) rfl ?_
    refine jw_sub [3, 4, 2, 0] [(0, .ref a), (1, .int v1), (3, .int y6), (5, .int (0 : Int32))] rfl ?_
    obtain ⟨wx26, hl26, h⟩ := bL1_some h
    refine sX7_closes_L26 hX hT hGX hret (o := wx26) (fun q0 e9 => ?_) n _ _ _ _ hl26
    cases e9
    exact hret _ _ _ _ _ (Nat.zero_le _) (Nat.zero_le _) dX7_closes_57 (hro _ (Option.some.inj h).symm)
set_option maxRecDepth 100000 in
set_option maxHeartbeats 4000000 in
theorem kX7_closes {l : Launch} {D : va_G} {tys : List (ClassId × FieldType)} {a : Nat} {ad : Nat → Nat} {cI cZ cO cJ : ClassId} {n : Nat} {w : MW} {v1 v2 : Int32} {w1 : MW} (hT : tys = jTy cI cZ cO cJ) (h : fX7_closes n w v1 v2 = some w1) : CC l jG0 D tys yX7_closes wsX7_closes rmX7_closes [.ref a, .int v1, .int v2] (mW a ad cI cZ w) (fun ov w2 => ov = none ∧ w2 = (mW a ad cI cZ w1)) := by
  refine CC_of (cc := cX7_closes) (maxL := 10) (ret := none) (by decide) rfl (by decide) ?_
  intro X hD hL hT0 hGX hX rI rZ rV rA
  exact sX7_closes hX (hT0.trans hT) hGX (fun cells slots w9 pc lv => rV cells slots w9 pc lv rfl) (o := w1) (fun w9 e9 => by cases e9; exact ⟨rfl, rfl⟩) h
/-! X7_readsPosting -/
abbrev rmX7_readsPosting : Room := { frames := 2, cells := 0, slots := 0, locals := 45 }
theorem hdX7_readsPosting : yX7_readsPosting.cls = RX7 ∧ yX7_readsPosting.cls ≠ "java/lang/invoke/MethodHandle" ∧ yX7_readsPosting.cls ≠ "java/lang/invoke/VarHandle" ∧ (parseMethodDescriptor yX7_readsPosting.desc).map (fun d => d.parameters.length) = some 2 := by decide +kernel
theorem inX7_readsPosting : ∀ w ∈ wsX70, w ∈ wsX7_readsPosting := fun _ h => List.mem_cons_of_mem _ (List.mem_append_right _ h)
theorem lkX7_readsPosting_133 : Cond.fieldLink RX7 133 "PostlintModel" (TX7 1).2.1 (TX7 1).2.2.1 ∈ wsX7_readsPosting := by decide +kernel
theorem lkX7_readsPosting_140 : Cond.fieldLink RX7 140 "PostlintModel" (TX7 40).2.1 (TX7 40).2.2.1 ∈ wsX7_readsPosting := by decide +kernel
theorem lkX7_readsPosting_167 : Cond.fieldLink RX7 167 "PostlintModel" (TX7 26).2.1 (TX7 26).2.2.1 ∈ wsX7_readsPosting := by decide +kernel
theorem lkX7_readsPosting_7 : Cond.fieldLink RX7 7 "PostlintModel" (TX7 2).2.1 (TX7 2).2.2.1 ∈ wsX7_readsPosting := by decide +kernel
theorem lkX7_readsPosting_74 : Cond.fieldLink RX7 74 "PostlintModel" (TX7 27).2.1 (TX7 27).2.2.1 ∈ wsX7_readsPosting := by decide +kernel
theorem lkX7_readsPosting_77 : Cond.fieldLink RX7 77 "PostlintModel" (TX7 28).2.1 (TX7 28).2.2.1 ∈ wsX7_readsPosting := by decide +kernel
theorem lkX7_readsPosting_80 : Cond.fieldLink RX7 80 "PostlintModel" (TX7 29).2.1 (TX7 29).2.2.1 ∈ wsX7_readsPosting := by decide +kernel
theorem lkX7_readsPosting_83 : Cond.fieldLink RX7 83 "PostlintModel" (TX7 30).2.1 (TX7 30).2.2.1 ∈ wsX7_readsPosting := by decide +kernel
theorem lkX7_readsPosting_92 : Cond.fieldLink RX7 92 "PostlintModel" (TX7 34).2.1 (TX7 34).2.2.1 ∈ wsX7_readsPosting := by decide +kernel
theorem lkX7_readsPosting_95 : Cond.fieldLink RX7 95 "PostlintModel" (TX7 35).2.1 (TX7 35).2.2.1 ∈ wsX7_readsPosting := by decide +kernel
def fX7_readsPosting_L7 (n : Nat) : Nat → MW → Int32 → Int32 → Int32 → Int32 → Option (Int32 × Int32 × Int32)
  | 0, _, _, _, _, _ => none
  | k + 1, w, v1, v2, v3, v4 => (if (w.1 1) ≤ v4 then some (v1, v2, v3) else chk (inB v4 (mLen 2)) (bP (fX7_isIn (w.2 2 (v4).toNatClampNeg) (48 : Int32) (57 : Int32)) (fun r27 => (if r27 = 0 then some (v1, v2, v3) else chk (inB v4 (mLen 2)) (bnd (((((10 : Int32) * v3) + (w.2 2 (v4).toNatClampNeg)) - (48 : Int32))) (fun y48 => fX7_readsPosting_L7 n k w v1 v2 y48 ((v4 + (1 : Int32)))))))))
def fX7_readsPosting_J99 (n : Nat) (w : MW) (v1 v2 v3 t0 t1 : Int32) : Option MW := chk (inB t1 (mLen 28)) (chk (b01 t0) (bnd (mA w 28 (t1).toNatClampNeg t0) (fun w99 => chk (inB (w99.1 26) (mLen 29)) (bnd (mA w99 29 ((w99.1 26)).toNatClampNeg v3) (fun w109 => chk (inB (w109.1 26) (mLen 30)) (bnd (mA w109 30 ((w109.1 26)).toNatClampNeg (1 : Int32)) (fun w119 => bnd (mS w119 26 ((w119.1 26) + (1 : Int32))) (fun w127 => b2 (fX7_begins w127 v2 (0 : Int32)) (fun r133 w133 => chk (inB v1 (mLen 2)) (bP (fX7_putsSign w133 (w133.2 2 (v1).toNatClampNeg)) (fun w145 => chk (inB (v1 + (1 : Int32)) (mLen 2)) (bP (fX7_putsSign w145 (w145.2 2 ((v1 + (1 : Int32))).toNatClampNeg)) (fun w157 => bP (fX7_putsNumber w157 v3) (fun w162 => chk (inB r133 (mLen 34)) (chk (inB r133 (mLen 35)) (bnd (mA w162 35 (r133).toNatClampNeg ((w162.1 40) - (w162.2 34 (r133).toNatClampNeg))) (fun w183 => some w183)))))))))))))))))
def fX7_readsPosting (n : Nat) (w : MW) (v1 v2 : Int32) : Option MW := bnd ((v1 + (2 : Int32))) (fun y5 => bL3 (fX7_readsPosting_L7 n n w v1 v2 (0 : Int32) y5) (fun x1_7 x2_7 x3_7 => chk (inB x1_7 (mLen 2)) (chk (inB (w.1 26) (mLen 27)) (bnd (mA w 27 ((w.1 26)).toNatClampNeg ((w.2 2 (x1_7).toNatClampNeg) - (97 : Int32))) (fun w72 => chk (inB (x1_7 + (1 : Int32)) (mLen 2)) ((if ¬ (w72.2 2 ((x1_7 + (1 : Int32))).toNatClampNeg) = (45 : Int32) then fX7_readsPosting_J99 n w72 x1_7 x2_7 x3_7 (0 : Int32) (w72.1 26) else fX7_readsPosting_J99 n w72 x1_7 x2_7 x3_7 (1 : Int32) (w72.1 26))))))))
set_option maxRecDepth 100000 in
set_option maxHeartbeats 4000000 in
theorem sX7_readsPosting_L7 {X : JX} {a : Nat} {ad : Nat → Nat} {cI cZ cO cJ : ClassId} {n : Nat} {post : Option Value → va_W → Prop} (hX : jOK X cX7_readsPosting 5 wsX7_readsPosting RX7 rmX7_readsPosting) (hT : jT X = jTy cI cZ cO cJ) (hGX : jG X jG0) (hret : jRV X cX7_readsPosting rmX7_readsPosting post) {o : (Int32 × Int32 × Int32)} (hex : ∀ (x1 x2 x3 : Int32), o = (x1, x2, x3) → JW X 0 0 (mW a ad cI cZ w) 55 [(0, .ref a), (1, .int x1), (2, .int x2), (3, .int x3)] [])  : ∀ (k : Nat) (w : MW) (v1 v2 v3 v4 : Int32), fX7_readsPosting_L7 n k w v1 v2 v3 v4 = some o → JW X 0 0 (mW a ad cI cZ w) 7 [(0, .ref a), (1, .int v1), (2, .int v2), (3, .int v3), (4, .int v4)] [] := by
  intro k
  induction k with
  | zero => intro w v1 v2 v3 v4 h; cases h
  | succ k hrec0 =>
    intro w v1 v2 v3 v4 h
    have hrec := hrec0
    unfold fX7_readsPosting_L7 at h
    refine jw_iload hX dX7_readsPosting_7 4 rfl ?_
    refine jw_aload_n hX dX7_readsPosting_9 rfl 0 rfl ?_
    refine jw_mgetI hX hT inX7_readsPosting 1 (by decide) lkX7_readsPosting_133 rfl dX7_readsPosting_10 ?_
    refine jw_icmp_ge (tgt := 55) hX dX7_readsPosting_13 (by decide) (fun hc => ?_) (fun hc => ?_)
    · rw [if_pos hc] at h
      refine jw_sub [0, 1, 2, 3] [(0, .ref a), (1, .int v1), (2, .int v2), (3, .int v3)] rfl ?_
      exact hex _ _ _ (Option.some.inj h).symm
    · rw [if_neg hc] at h
      refine jw_aload_n hX dX7_readsPosting_16 rfl 0 rfl ?_
      refine jw_mgetA hX hT inX7_readsPosting 2 (by decide) lkX7_readsPosting_7 rfl dX7_readsPosting_17 ?_
      refine jw_iload hX dX7_readsPosting_20 4 rfl ?_
      obtain ⟨hb22, h⟩ := chk_some h
      refine jw_miald hX hT 0 2 rfl rfl hb22 dX7_readsPosting_22 ?_
      refine jw_bipush (v := (48 : Int32)) hX dX7_readsPosting_23 (by decide) ?_
      refine jw_bipush (v := (57 : Int32)) hX dX7_readsPosting_25 (by decide) ?_
      obtain ⟨r27, hc27, h⟩ := bP_some h
      refine jw_cSi (As := [.int (w.2 2 (v4).toNatClampNeg), .int (48 : Int32), .int (57 : Int32)]) hX jG0_ok hGX 3 (kX7_isIn hT hc27) gX7_readsPosting_X7_isIn rfl hdX7_isIn ⟨by decide, by decide⟩ rfl (by decide) dX7_readsPosting_27 rfl rfl ⟨by decide, by decide⟩ ?_
      refine jw_if_eq (tgt := 55) hX dX7_readsPosting_30 (by decide) (fun hc => ?_) (fun hc => ?_)
      · rw [if_pos hc] at h
        refine jw_sub [0, 1, 2, 3] [(0, .ref a), (1, .int v1), (2, .int v2), (3, .int v3)] rfl ?_
        exact hex _ _ _ (Option.some.inj h).symm
      · rw [if_neg hc] at h
        refine jw_bipush (v := (10 : Int32)) hX dX7_readsPosting_33 (by decide) ?_
        refine jw_iload_n hX dX7_readsPosting_35 rfl 3 rfl ?_
        refine jw_imul hX dX7_readsPosting_36 ?_
        refine jw_aload_n hX dX7_readsPosting_37 rfl 0 rfl ?_
        refine jw_mgetA hX hT inX7_readsPosting 2 (by decide) lkX7_readsPosting_7 rfl dX7_readsPosting_38 ?_
        refine jw_iload hX dX7_readsPosting_41 4 rfl ?_
        obtain ⟨hb43, h⟩ := chk_some h
        refine jw_miald hX hT 0 2 rfl rfl hb43 dX7_readsPosting_43 ?_
        refine jw_iadd hX dX7_readsPosting_44 ?_
        refine jw_bipush (v := (48 : Int32)) hX dX7_readsPosting_45 (by decide) ?_
        refine jw_isub hX dX7_readsPosting_47 ?_
        refine jw_topi (fun y48 e48 => ?_)
        replace h := bnd_some h y48 e48
        clear e48
        refine jw_istore_n hX [(3, .int y48), (0, .ref a), (1, .int v1), (2, .int v2), (4, .int v4)] dX7_readsPosting_48 rfl (by decide) rfl ?_
        refine jw_iinc (v := (v4 + (1 : Int32))) hX [(4, .int (v4 + (1 : Int32))), (3, .int y48), (0, .ref a), (1, .int v1), (2, .int v2)] dX7_readsPosting_49 4 rfl (by first | rfl | (congr 1; decide)) (by decide) rfl ?_
        refine jw_goto (tgt := 7) hX dX7_readsPosting_52 (by decide) ?_
        refine jw_sub [2, 3, 4, 1, 0] [(0, .ref a), (1, .int v1), (2, .int v2), (3, .int y48), (4, .int (v4 + (1 : Int32)))] rfl ?_
        exact hrec _ _ _ _ _ h
set_option maxRecDepth 100000 in
set_option maxHeartbeats 4000000 in
theorem sX7_readsPosting_J99 {X : JX} {a : Nat} {ad : Nat → Nat} {cI cZ cO cJ : ClassId} {n : Nat} {post : Option Value → va_W → Prop} (hX : jOK X cX7_readsPosting 5 wsX7_readsPosting RX7 rmX7_readsPosting) (hT : jT X = jTy cI cZ cO cJ) (hGX : jG X jG0) (hret : jRV X cX7_readsPosting rmX7_readsPosting post) {o : MW}   (hro : ∀ w9 : MW, o = w9 → post none (mW a ad cI cZ w9)) {w : MW} {v1 v2 v3 t0 t1 : Int32} (h : fX7_readsPosting_J99 n w v1 v2 v3 t0 t1 = some o) : JW X 0 0 (mW a ad cI cZ w) 99 [(0, .ref a), (1, .int v1), (2, .int v2), (3, .int v3)] [.int t0, .int t1, .ref (ad 28)] := by
  unfold fX7_readsPosting_J99 at h
  obtain ⟨hb99, h⟩ := chk_some h
  obtain ⟨hz99, h⟩ := chk_some h
  refine jw_mzast hX hT 22 28 rfl rfl hb99 hz99 dX7_readsPosting_99 (fun w99 e99 => ?_)
  replace h := bnd_some h w99 e99
  clear e99
  refine jw_aload_n hX dX7_readsPosting_100 rfl 0 rfl ?_
  refine jw_mgetA hX hT inX7_readsPosting 29 (by decide) lkX7_readsPosting_80 rfl dX7_readsPosting_101 ?_
  refine jw_aload_n hX dX7_readsPosting_104 rfl 0 rfl ?_
  refine jw_mgetI hX hT inX7_readsPosting 26 (by decide) lkX7_readsPosting_167 rfl dX7_readsPosting_105 ?_
  refine jw_iload_n hX dX7_readsPosting_108 rfl 3 rfl ?_
  obtain ⟨hb109, h⟩ := chk_some h
  refine jw_miast hX hT 23 29 rfl rfl hb109 dX7_readsPosting_109 (fun w109 e109 => ?_)
  replace h := bnd_some h w109 e109
  clear e109
  refine jw_aload_n hX dX7_readsPosting_110 rfl 0 rfl ?_
  refine jw_mgetA hX hT inX7_readsPosting 30 (by decide) lkX7_readsPosting_83 rfl dX7_readsPosting_111 ?_
  refine jw_aload_n hX dX7_readsPosting_114 rfl 0 rfl ?_
  refine jw_mgetI hX hT inX7_readsPosting 26 (by decide) lkX7_readsPosting_167 rfl dX7_readsPosting_115 ?_
  refine jw_iconst (v := (1 : Int32)) hX dX7_readsPosting_118 (by decide) ?_
  obtain ⟨hb119, h⟩ := chk_some h
  refine jw_miast hX hT 24 30 rfl rfl hb119 dX7_readsPosting_119 (fun w119 e119 => ?_)
  replace h := bnd_some h w119 e119
  clear e119
  refine jw_aload_n hX dX7_readsPosting_120 rfl 0 rfl ?_
  refine jw_dup hX dX7_readsPosting_121 rfl ?_
  refine jw_mgetI hX hT inX7_readsPosting 26 (by decide) lkX7_readsPosting_167 rfl dX7_readsPosting_122 ?_
  refine jw_iconst (v := (1 : Int32)) hX dX7_readsPosting_125 (by decide) ?_
  refine jw_iadd hX dX7_readsPosting_126 ?_
  refine jw_mputI hX hT inX7_readsPosting 26 (by decide) lkX7_readsPosting_167 rfl dX7_readsPosting_127 (fun w127 e127 => ?_)
  replace h := bnd_some h w127 e127
  clear e127
  refine jw_aload_n hX dX7_readsPosting_130 rfl 0 rfl ?_
  refine jw_iload_n hX dX7_readsPosting_131 rfl 2 rfl ?_
  refine jw_iconst (v := (0 : Int32)) hX dX7_readsPosting_132 (by decide) ?_
  obtain ⟨r133, w133, hc133, h⟩ := b2_some h
  refine jw_cVi (As := [.int v2, .int (0 : Int32)]) hX jG0_ok hGX 2 (kX7_begins hT hc133) gX7_readsPosting_X7_begins rfl hdX7_begins ⟨by decide, by decide⟩ 0 7 rfl rfl rfl (by decide) dX7_readsPosting_133 rfl rfl ⟨by decide, by decide⟩ ?_
  refine jw_istore hX [(4, .int r133), (0, .ref a), (1, .int v1), (2, .int v2), (3, .int v3)] dX7_readsPosting_136 (by decide) rfl ?_
  refine jw_aload_n hX dX7_readsPosting_138 rfl 1 rfl ?_
  refine jw_aload_n hX dX7_readsPosting_139 rfl 1 rfl ?_
  refine jw_mgetA hX hT inX7_readsPosting 2 (by decide) lkX7_readsPosting_7 rfl dX7_readsPosting_140 ?_
  refine jw_iload_n hX dX7_readsPosting_143 rfl 2 rfl ?_
  obtain ⟨hb144, h⟩ := chk_some h
  refine jw_miald hX hT 0 2 rfl rfl hb144 dX7_readsPosting_144 ?_
  obtain ⟨w145, hc145, h⟩ := bP_some h
  refine jw_cVv (As := [.int (w133.2 2 (v1).toNatClampNeg)]) hX jG0_ok hGX 1 (kX7_putsSign hT hc145) gX7_readsPosting_X7_putsSign rfl hdX7_putsSign ⟨by decide, by decide⟩ 0 7 rfl rfl rfl (by decide) dX7_readsPosting_145 rfl rfl ⟨by decide, by decide⟩ ?_
  refine jw_aload_n hX dX7_readsPosting_148 rfl 1 rfl ?_
  refine jw_aload_n hX dX7_readsPosting_149 rfl 1 rfl ?_
  refine jw_mgetA hX hT inX7_readsPosting 2 (by decide) lkX7_readsPosting_7 rfl dX7_readsPosting_150 ?_
  refine jw_iload_n hX dX7_readsPosting_153 rfl 2 rfl ?_
  refine jw_iconst (v := (1 : Int32)) hX dX7_readsPosting_154 (by decide) ?_
  refine jw_iadd hX dX7_readsPosting_155 ?_
  obtain ⟨hb156, h⟩ := chk_some h
  refine jw_miald hX hT 0 2 rfl rfl hb156 dX7_readsPosting_156 ?_
  obtain ⟨w157, hc157, h⟩ := bP_some h
  refine jw_cVv (As := [.int (w145.2 2 ((v1 + (1 : Int32))).toNatClampNeg)]) hX jG0_ok hGX 1 (kX7_putsSign hT hc157) gX7_readsPosting_X7_putsSign rfl hdX7_putsSign ⟨by decide, by decide⟩ 0 7 rfl rfl rfl (by decide) dX7_readsPosting_157 rfl rfl ⟨by decide, by decide⟩ ?_
  refine jw_aload_n hX dX7_readsPosting_160 rfl 1 rfl ?_
  refine jw_iload_n hX dX7_readsPosting_161 rfl 4 rfl ?_
  obtain ⟨w162, hc162, h⟩ := bP_some h
  refine jw_cVv (As := [.int v3]) hX jG0_ok hGX 1 (kX7_putsNumber hT hc162) gX7_readsPosting_X7_putsNumber rfl hdX7_putsNumber ⟨by decide, by decide⟩ 0 7 rfl rfl rfl (by decide) dX7_readsPosting_162 rfl rfl ⟨by decide, by decide⟩ ?_
  refine jw_aload_n hX dX7_readsPosting_165 rfl 1 rfl ?_
  refine jw_mgetA hX hT inX7_readsPosting 35 (by decide) lkX7_readsPosting_95 rfl dX7_readsPosting_166 ?_
  refine jw_iload hX dX7_readsPosting_169 0 rfl ?_
  refine jw_aload_n hX dX7_readsPosting_171 rfl 1 rfl ?_
  refine jw_mgetI hX hT inX7_readsPosting 40 (by decide) lkX7_readsPosting_140 rfl dX7_readsPosting_172 ?_
  refine jw_aload_n hX dX7_readsPosting_175 rfl 1 rfl ?_
  refine jw_mgetA hX hT inX7_readsPosting 34 (by decide) lkX7_readsPosting_92 rfl dX7_readsPosting_176 ?_
  refine jw_iload hX dX7_readsPosting_179 0 rfl ?_
  obtain ⟨hb181, h⟩ := chk_some h
  refine jw_miald hX hT 27 34 rfl rfl hb181 dX7_readsPosting_181 ?_
  refine jw_isub hX dX7_readsPosting_182 ?_
  obtain ⟨hb183, h⟩ := chk_some h
  refine jw_miast hX hT 28 35 rfl rfl hb183 dX7_readsPosting_183 (fun w183 e183 => ?_)
  replace h := bnd_some h w183 e183
  clear e183
  exact hret _ _ _ _ _ (Nat.zero_le _) (Nat.zero_le _) dX7_readsPosting_184 (hro _ (Option.some.inj h).symm)
set_option maxRecDepth 100000 in
set_option maxHeartbeats 4000000 in
theorem sX7_readsPosting {X : JX} {a : Nat} {ad : Nat → Nat} {cI cZ cO cJ : ClassId} {n : Nat} {post : Option Value → va_W → Prop} (hX : jOK X cX7_readsPosting 5 wsX7_readsPosting RX7 rmX7_readsPosting) (hT : jT X = jTy cI cZ cO cJ) (hGX : jG X jG0) (hret : jRV X cX7_readsPosting rmX7_readsPosting post) {o : MW} (hro : ∀ w9 : MW, o = w9 → post none (mW a ad cI cZ w9)) {w : MW} {v1 v2 : Int32} (h : fX7_readsPosting n w v1 v2 = some o) : JW X 0 0 (mW a ad cI cZ w) 0 [(0, .ref a), (1, .int v1), (2, .int v2)] [] := by
  unfold fX7_readsPosting at h
  refine jw_iconst (v := (0 : Int32)) hX dX7_readsPosting_0 (by decide) ?_
  refine jw_istore_n hX [(3, .int (0 : Int32)), (0, .ref a), (1, .int v1), (2, .int v2)] dX7_readsPosting_1 rfl (by decide) rfl ?_
  refine jw_iload_n hX dX7_readsPosting_2 rfl 2 rfl ?_
  refine jw_iconst (v := (2 : Int32)) hX dX7_readsPosting_3 (by decide) ?_
  refine jw_iadd hX dX7_readsPosting_4 ?_
  refine jw_topi (fun y5 e5 => ?_)
  replace h := bnd_some h y5 e5
  clear e5
  refine jw_istore hX [(4, .int y5), (3, .int (0 : Int32)), (0, .ref a), (1, .int v1), (2, .int v2)] dX7_readsPosting_5 (by decide) rfl ?_
  refine jw_sub [2, 3, 4, 1, 0] [(0, .ref a), (1, .int v1), (2, .int v2), (3, .int (0 : Int32)), (4, .int y5)] rfl ?_
  obtain ⟨x1_7, x2_7, x3_7, hl7, h⟩ := bL3_some h
  refine sX7_readsPosting_L7 hX hT hGX hret (o := (x1_7, x2_7, x3_7)) (fun q0 q1 q2 e9 => ?_) n _ _ _ _ _ hl7
  cases e9
  refine jw_aload_n hX dX7_readsPosting_55 rfl 0 rfl ?_
  refine jw_mgetA hX hT inX7_readsPosting 27 (by decide) lkX7_readsPosting_74 rfl dX7_readsPosting_56 ?_
  refine jw_aload_n hX dX7_readsPosting_59 rfl 0 rfl ?_
  refine jw_mgetI hX hT inX7_readsPosting 26 (by decide) lkX7_readsPosting_167 rfl dX7_readsPosting_60 ?_
  refine jw_aload_n hX dX7_readsPosting_63 rfl 0 rfl ?_
  refine jw_mgetA hX hT inX7_readsPosting 2 (by decide) lkX7_readsPosting_7 rfl dX7_readsPosting_64 ?_
  refine jw_iload_n hX dX7_readsPosting_67 rfl 1 rfl ?_
  obtain ⟨hb68, h⟩ := chk_some h
  refine jw_miald hX hT 0 2 rfl rfl hb68 dX7_readsPosting_68 ?_
  refine jw_bipush (v := (97 : Int32)) hX dX7_readsPosting_69 (by decide) ?_
  refine jw_isub hX dX7_readsPosting_71 ?_
  obtain ⟨hb72, h⟩ := chk_some h
  refine jw_miast hX hT 21 27 rfl rfl hb72 dX7_readsPosting_72 (fun w72 e72 => ?_)
  replace h := bnd_some h w72 e72
  clear e72
  refine jw_aload_n hX dX7_readsPosting_73 rfl 0 rfl ?_
  refine jw_mgetA hX hT inX7_readsPosting 28 (by decide) lkX7_readsPosting_77 rfl dX7_readsPosting_74 ?_
  refine jw_aload_n hX dX7_readsPosting_77 rfl 0 rfl ?_
  refine jw_mgetI hX hT inX7_readsPosting 26 (by decide) lkX7_readsPosting_167 rfl dX7_readsPosting_78 ?_
  refine jw_aload_n hX dX7_readsPosting_81 rfl 0 rfl ?_
  refine jw_mgetA hX hT inX7_readsPosting 2 (by decide) lkX7_readsPosting_7 rfl dX7_readsPosting_82 ?_
  refine jw_iload_n hX dX7_readsPosting_85 rfl 1 rfl ?_
  refine jw_iconst (v := (1 : Int32)) hX dX7_readsPosting_86 (by decide) ?_
  refine jw_iadd hX dX7_readsPosting_87 ?_
  obtain ⟨hb88, h⟩ := chk_some h
  refine jw_miald hX hT 0 2 rfl rfl hb88 dX7_readsPosting_88 ?_
  refine jw_bipush (v := (45 : Int32)) hX dX7_readsPosting_89 (by decide) ?_
  refine jw_icmp_ne (tgt := 98) hX dX7_readsPosting_91 (by decide) (fun hc => ?_) (fun hc => ?_)
  · rw [if_pos hc] at h
    refine jw_iconst (v := (0 : Int32)) hX dX7_readsPosting_98 (by decide) ?_
    exact sX7_readsPosting_J99 hX hT hGX hret hro h
  · rw [if_neg hc] at h
    refine jw_iconst (v := (1 : Int32)) hX dX7_readsPosting_94 (by decide) ?_
    refine jw_goto (tgt := 99) hX dX7_readsPosting_95 (by decide) ?_
    exact sX7_readsPosting_J99 hX hT hGX hret hro h
set_option maxRecDepth 100000 in
set_option maxHeartbeats 4000000 in
theorem kX7_readsPosting {l : Launch} {D : va_G} {tys : List (ClassId × FieldType)} {a : Nat} {ad : Nat → Nat} {cI cZ cO cJ : ClassId} {n : Nat} {w : MW} {v1 v2 : Int32} {w1 : MW} (hT : tys = jTy cI cZ cO cJ) (h : fX7_readsPosting n w v1 v2 = some w1) : CC l jG0 D tys yX7_readsPosting wsX7_readsPosting rmX7_readsPosting [.ref a, .int v1, .int v2] (mW a ad cI cZ w) (fun ov w2 => ov = none ∧ w2 = (mW a ad cI cZ w1)) := by
  refine CC_of (cc := cX7_readsPosting) (maxL := 5) (ret := none) (by decide) rfl (by decide) ?_
  intro X hD hL hT0 hGX hX rI rZ rV rA
  exact sX7_readsPosting hX (hT0.trans hT) hGX (fun cells slots w9 pc lv => rV cells slots w9 pc lv rfl) (o := w1) (fun w9 e9 => by cases e9; exact ⟨rfl, rfl⟩) h
