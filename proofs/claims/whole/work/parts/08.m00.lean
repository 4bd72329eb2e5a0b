/-! X7_thrown -/
abbrev rmX7_thrown : Room := { frames := 0, cells := 0, slots := 0, locals := 0 }
theorem hdX7_thrown : yX7_thrown.cls = RX7 ∧ yX7_thrown.cls ≠ "java/lang/invoke/MethodHandle" ∧ yX7_thrown.cls ≠ "java/lang/invoke/VarHandle" ∧ (parseMethodDescriptor yX7_thrown.desc).map (fun d => d.parameters.length) = some 0 := by decide +kernel
theorem inX7_thrown : ∀ w ∈ wsX70, w ∈ wsX7_thrown := fun _ h => List.mem_cons_of_mem _ (List.mem_append_right _ h)
theorem lkX7_thrown_122 : Cond.fieldLink RX7 122 "PostlintModel" (TX7 0).2.1 (TX7 0).2.2.1 ∈ wsX7_thrown := by decide +kernel
def fX7_thrown (w : MW) : Option Int32 := some (w.1 0)
set_option maxRecDepth 100000 in
set_option maxHeartbeats 4000000 in
theorem sX7_thrown {X : JX} {a : Nat} {ad : Nat → Nat} {cI cZ cO cJ : ClassId} {w : MW} {post : Option Value → va_W → Prop} (hX : jOK X cX7_thrown 1 wsX7_thrown RX7 rmX7_thrown) (hT : jT X = jTy cI cZ cO cJ) (hGX : jG X jG0) (hret : jRI X cX7_thrown rmX7_thrown post) {o : Int32} (hro : ∀ v9 : Int32, o = v9 → post (some (.int v9)) (mW a ad cI cZ w)) (h : fX7_thrown w  = some o) : JW X 0 0 (mW a ad cI cZ w) 0 [(0, .ref a)] [] := by
  unfold fX7_thrown at h
  refine jw_aload_n hX dX7_thrown_0 rfl 0 rfl ?_
  refine jw_mgetI hX hT inX7_thrown 0 (by decide) lkX7_thrown_122 rfl dX7_thrown_1 ?_
  exact hret _ _ _ _ _ _ (Nat.zero_le _) (Nat.zero_le _) dX7_thrown_4 (hro _ (Option.some.inj h).symm)
set_option maxRecDepth 100000 in
set_option maxHeartbeats 4000000 in
theorem kX7_thrown {l : Launch} {D : va_G} {tys : List (ClassId × FieldType)} {a : Nat} {ad : Nat → Nat} {cI cZ cO cJ : ClassId} {w : MW}  {r : Int32} (hT : tys = jTy cI cZ cO cJ) (h : fX7_thrown w  = some r) : CC l jG0 D tys yX7_thrown wsX7_thrown rmX7_thrown [.ref a] (mW a ad cI cZ w) (fun ov w2 => ov = some (.int r) ∧ w2 = (mW a ad cI cZ w)) := by
  refine CC_of (cc := cX7_thrown) (maxL := 1) (ret := (some .int)) (by decide) rfl (Nat.le_of_ble_eq_true rfl) ?_
  intro X hD hL hT0 hGX hX rI rZ rV rA
  exact sX7_thrown (post := fun ov w2 => ov = some (.int r) ∧ w2 = (mW a ad cI cZ w)) hX (hT0.trans hT) hGX (fun cells slots w9 pc lv v => rI cells slots w9 pc lv v rfl) (o := r) (fun v9 e9 => by cases e9; exact ⟨rfl, rfl⟩) h
/-! X7_isOf -/
abbrev rmX7_isOf : Room := { frames := 0, cells := 0, slots := 0, locals := 0 }
theorem hdX7_isOf : yX7_isOf.cls = RX7 ∧ yX7_isOf.cls ≠ "java/lang/invoke/MethodHandle" ∧ yX7_isOf.cls ≠ "java/lang/invoke/VarHandle" ∧ (parseMethodDescriptor yX7_isOf.desc).map (fun d => d.parameters.length) = some 1 := by decide +kernel
theorem inX7_isOf : ∀ w ∈ wsX70, w ∈ wsX7_isOf := fun _ h => List.mem_cons_of_mem _ (List.mem_append_right _ h)
theorem lkX7_isOf_122 : Cond.fieldLink RX7 122 "PostlintModel" (TX7 0).2.1 (TX7 0).2.2.1 ∈ wsX7_isOf := by decide +kernel
def fX7_isOf (w : MW) (v1 : Int32) : Option (Int32 × MW) := bnd (mS w 0 v1) (fun w2 => (if v1 = 0 then chk (b01 (1 : Int32)) (some ((1 : Int32), w2)) else chk (b01 (0 : Int32)) (some ((0 : Int32), w2))))
set_option maxRecDepth 100000 in
set_option maxHeartbeats 4000000 in
theorem sX7_isOf {X : JX} {a : Nat} {ad : Nat → Nat} {cI cZ cO cJ : ClassId} {post : Option Value → va_W → Prop} (hX : jOK X cX7_isOf 2 wsX7_isOf RX7 rmX7_isOf) (hT : jT X = jTy cI cZ cO cJ) (hGX : jG X jG0) (hret : jRZ X cX7_isOf rmX7_isOf post) {o : (Int32 × MW)} (hro : ∀ (v9 : Int32) (w9 : MW), o = (v9, w9) → post (some (.int v9)) (mW a ad cI cZ w9)) {w : MW} {v1 : Int32} (h : fX7_isOf w v1 = some o) : JW X 0 0 (mW a ad cI cZ w) 0 [(0, .ref a), (1, .int v1)] [] := by
  unfold fX7_isOf at h
  refine jw_aload_n hX dX7_isOf_0 rfl 0 rfl ?_
  refine jw_iload_n hX dX7_isOf_1 rfl 1 rfl ?_
  refine jw_mputI hX hT inX7_isOf 0 (by decide) lkX7_isOf_122 rfl dX7_isOf_2 (fun w2 e2 => ?_)
  replace h := bnd_some h w2 e2
  clear e2
  refine jw_iload_n hX dX7_isOf_5 rfl 1 rfl ?_
  refine jw_if_ne (tgt := 13) hX dX7_isOf_6 (by decide) (fun hc => ?_) (fun hc => ?_)
  · rw [if_neg hc] at h
    refine jw_iconst (v := (0 : Int32)) hX dX7_isOf_13 (by decide) ?_
    obtain ⟨hz14, h⟩ := chk_some h
    exact hret _ _ _ _ _ _ (b01_or hz14) (Nat.zero_le _) (Nat.zero_le _) dX7_isOf_14 (hro _ _ (Option.some.inj h).symm)
  · rw [if_pos hc] at h
    refine jw_iconst (v := (1 : Int32)) hX dX7_isOf_9 (by decide) ?_
    refine jw_goto (tgt := 14) hX dX7_isOf_10 (by decide) ?_
    obtain ⟨hz14, h⟩ := chk_some h
    exact hret _ _ _ _ _ _ (b01_or hz14) (Nat.zero_le _) (Nat.zero_le _) dX7_isOf_14 (hro _ _ (Option.some.inj h).symm)
set_option maxRecDepth 100000 in
set_option maxHeartbeats 4000000 in
theorem kX7_isOf {l : Launch} {D : va_G} {tys : List (ClassId × FieldType)} {a : Nat} {ad : Nat → Nat} {cI cZ cO cJ : ClassId} {w : MW} {v1 : Int32} {r : Int32} {w1 : MW} (hT : tys = jTy cI cZ cO cJ) (h : fX7_isOf w v1 = some (r, w1)) : CC l jG0 D tys yX7_isOf wsX7_isOf rmX7_isOf [.ref a, .int v1] (mW a ad cI cZ w) (fun ov w2 => ov = some (.int r) ∧ w2 = (mW a ad cI cZ w1)) := by
  refine CC_of (cc := cX7_isOf) (maxL := 2) (ret := (some .boolean)) (by decide) rfl (Nat.le_of_ble_eq_true rfl) ?_
  intro X hD hL hT0 hGX hX rI rZ rV rA
  exact sX7_isOf (post := fun ov w2 => ov = some (.int r) ∧ w2 = (mW a ad cI cZ w1)) hX (hT0.trans hT) hGX (fun cells slots w9 pc lv v => rZ cells slots w9 pc lv v rfl) (o := (r, w1)) (fun v9 w9 e9 => by cases e9; exact ⟨rfl, rfl⟩) h
/-! X7_isIn -/
abbrev rmX7_isIn : Room := { frames := 0, cells := 0, slots := 0, locals := 0 }
theorem hdX7_isIn : yX7_isIn.cls ≠ "java/lang/invoke/MethodHandle" ∧ yX7_isIn.cls ≠ "java/lang/invoke/VarHandle" ∧ (parseMethodDescriptor yX7_isIn.desc).map (fun d => d.parameters.length) = some 3 := by decide +kernel
def fX7_isIn (v0 v1 v2 : Int32) : Option Int32 := (if v0 < v1 then chk (b01 (0 : Int32)) (some (0 : Int32)) else (if v2 < v0 then chk (b01 (0 : Int32)) (some (0 : Int32)) else chk (b01 (1 : Int32)) (some (1 : Int32))))
set_option maxRecDepth 100000 in
set_option maxHeartbeats 4000000 in
theorem sX7_isIn {X : JX} {cI cZ cO cJ : ClassId} {wv : va_W} {post : Option Value → va_W → Prop} (hX : jOK X cX7_isIn 3 wsX7_isIn RX7 rmX7_isIn) (hT : jT X = jTy cI cZ cO cJ) (hGX : jG X jG0) (hret : jRZ X cX7_isIn rmX7_isIn post) {o : Int32} (hro : ∀ v9 : Int32, o = v9 → post (some (.int v9)) wv) {v0 v1 v2 : Int32} (h : fX7_isIn v0 v1 v2 = some o) : JW X 0 0 wv 0 [(0, .int v0), (1, .int v1), (2, .int v2)] [] := by
  unfold fX7_isIn at h
  refine jw_iload_n hX dX7_isIn_0 rfl 0 rfl ?_
  refine jw_iload_n hX dX7_isIn_1 rfl 1 rfl ?_
  refine jw_icmp_lt (tgt := 14) hX dX7_isIn_2 (by decide) (fun hc => ?_) (fun hc => ?_)
  · rw [if_pos hc] at h
    refine jw_iconst (v := (0 : Int32)) hX dX7_isIn_14 (by decide) ?_
    obtain ⟨hz15, h⟩ := chk_some h
    exact hret _ _ _ _ _ _ (b01_or hz15) (Nat.zero_le _) (Nat.zero_le _) dX7_isIn_15 (hro _ (Option.some.inj h).symm)
  · rw [if_neg hc] at h
    refine jw_iload_n hX dX7_isIn_5 rfl 0 rfl ?_
    refine jw_iload_n hX dX7_isIn_6 rfl 2 rfl ?_
    refine jw_icmp_gt (tgt := 14) hX dX7_isIn_7 (by decide) (fun hc => ?_) (fun hc => ?_)
    · rw [if_pos hc] at h
      refine jw_iconst (v := (0 : Int32)) hX dX7_isIn_14 (by decide) ?_
      obtain ⟨hz15, h⟩ := chk_some h
      exact hret _ _ _ _ _ _ (b01_or hz15) (Nat.zero_le _) (Nat.zero_le _) dX7_isIn_15 (hro _ (Option.some.inj h).symm)
    · rw [if_neg hc] at h
      refine jw_iconst (v := (1 : Int32)) hX dX7_isIn_10 (by decide) ?_
      refine jw_goto (tgt := 15) hX dX7_isIn_11 (by decide) ?_
      obtain ⟨hz15, h⟩ := chk_some h
      exact hret _ _ _ _ _ _ (b01_or hz15) (Nat.zero_le _) (Nat.zero_le _) dX7_isIn_15 (hro _ (Option.some.inj h).symm)
set_option maxRecDepth 100000 in
set_option maxHeartbeats 4000000 in
theorem kX7_isIn {l : Launch} {D : va_G} {tys : List (ClassId × FieldType)} {cI cZ cO cJ : ClassId} {wv : va_W} {v0 v1 v2 : Int32} {r : Int32} (hT : tys = jTy cI cZ cO cJ) (h : fX7_isIn v0 v1 v2 = some r) : CC l jG0 D tys yX7_isIn wsX7_isIn rmX7_isIn [.int v0, .int v1, .int v2] wv (fun ov w2 => ov = some (.int r) ∧ w2 = wv) := by
  refine CC_of (cc := cX7_isIn) (maxL := 3) (ret := (some .boolean)) (by decide) rfl (Nat.le_of_ble_eq_true rfl) ?_
  intro X hD hL hT0 hGX hX rI rZ rV rA
  exact sX7_isIn (post := fun ov w2 => ov = some (.int r) ∧ w2 = wv) hX (hT0.trans hT) hGX (fun cells slots w9 pc lv v => rZ cells slots w9 pc lv v rfl) (o := r) (fun v9 e9 => by cases e9; exact ⟨rfl, rfl⟩) h
/-! X7_isEntry -/
abbrev rmX7_isEntry : Room := { frames := 1, cells := 0, slots := 0, locals := 22 }
theorem hdX7_isEntry : yX7_isEntry.cls = RX7 ∧ yX7_isEntry.cls ≠ "java/lang/invoke/MethodHandle" ∧ yX7_isEntry.cls ≠ "java/lang/invoke/VarHandle" ∧ (parseMethodDescriptor yX7_isEntry.desc).map (fun d => d.parameters.length) = some 1 := by decide +kernel
theorem inX7_isEntry : ∀ w ∈ wsX70, w ∈ wsX7_isEntry := fun _ h => List.mem_cons_of_mem _ (List.mem_append_right _ h)
theorem lkX7_isEntry_126 : Cond.fieldLink RX7 126 "PostlintModel" (TX7 3).2.1 (TX7 3).2.2.1 ∈ wsX7_isEntry := by decide +kernel
def fX7_isEntry (w : MW) (v1 : Int32) : Option Int32 := bP (fX7_isIn v1 (0 : Int32) ((w.1 3) - (1 : Int32))) (fun r8 => chk (b01 r8) (some r8))
set_option maxRecDepth 100000 in
set_option maxHeartbeats 4000000 in
theorem sX7_isEntry {X : JX} {a : Nat} {ad : Nat → Nat} {cI cZ cO cJ : ClassId} {w : MW} {post : Option Value → va_W → Prop} (hX : jOK X cX7_isEntry 2 wsX7_isEntry RX7 rmX7_isEntry) (hT : jT X = jTy cI cZ cO cJ) (hGX : jG X jG0) (hret : jRZ X cX7_isEntry rmX7_isEntry post) {o : Int32} (hro : ∀ v9 : Int32, o = v9 → post (some (.int v9)) (mW a ad cI cZ w)) {v1 : Int32} (h : fX7_isEntry w v1 = some o) : JW X 0 0 (mW a ad cI cZ w) 0 [(0, .ref a), (1, .int v1)] [] := by
  unfold fX7_isEntry at h
  refine jw_iload_n hX dX7_isEntry_0 rfl 1 rfl ?_
  refine jw_iconst (v := (0 : Int32)) hX dX7_isEntry_1 (by decide) ?_
  refine jw_aload_n hX dX7_isEntry_2 rfl 0 rfl ?_
  refine jw_mgetI hX hT inX7_isEntry 3 (by decide) lkX7_isEntry_126 rfl dX7_isEntry_3 ?_
  refine jw_iconst (v := (1 : Int32)) hX dX7_isEntry_6 (by decide) ?_
  refine jw_isub hX dX7_isEntry_7 ?_
  obtain ⟨r8, hc8, h⟩ := bP_some h
  refine jw_cSi (As := [.int v1, .int (0 : Int32), .int ((w.1 3) - (1 : Int32))]) hX jG0_ok hGX 3 (kX7_isIn hT hc8) gX7_isEntry_X7_isIn rfl hdX7_isIn ⟨by decide, by decide⟩ rfl (Nat.le_of_ble_eq_true rfl) dX7_isEntry_8 rfl rfl ⟨by decide, by decide⟩ ?_
  obtain ⟨hz11, h⟩ := chk_some h
  exact hret _ _ _ _ _ _ (b01_or hz11) (Nat.zero_le _) (Nat.zero_le _) dX7_isEntry_11 (hro _ (Option.some.inj h).symm)
set_option maxRecDepth 100000 in
set_option maxHeartbeats 4000000 in
theorem kX7_isEntry {l : Launch} {D : va_G} {tys : List (ClassId × FieldType)} {a : Nat} {ad : Nat → Nat} {cI cZ cO cJ : ClassId} {w : MW} {v1 : Int32} {r : Int32} (hT : tys = jTy cI cZ cO cJ) (h : fX7_isEntry w v1 = some r) : CC l jG0 D tys yX7_isEntry wsX7_isEntry rmX7_isEntry [.ref a, .int v1] (mW a ad cI cZ w) (fun ov w2 => ov = some (.int r) ∧ w2 = (mW a ad cI cZ w)) := by
  refine CC_of (cc := cX7_isEntry) (maxL := 2) (ret := (some .boolean)) (by decide) rfl (Nat.le_of_ble_eq_true rfl) ?_
  intro X hD hL hT0 hGX hX rI rZ rV rA
  exact sX7_isEntry (post := fun ov w2 => ov = some (.int r) ∧ w2 = (mW a ad cI cZ w)) hX (hT0.trans hT) hGX (fun cells slots w9 pc lv v => rZ cells slots w9 pc lv v rfl) (o := r) (fun v9 e9 => by cases e9; exact ⟨rfl, rfl⟩) h
/-! X7_next -/
abbrev rmX7_next : Room := { frames := 1, cells := 0, slots := 0, locals := 22 }
theorem hdX7_next : yX7_next.cls ≠ "java/lang/invoke/MethodHandle" ∧ yX7_next.cls ≠ "java/lang/invoke/VarHandle" ∧ (parseMethodDescriptor yX7_next.desc).map (fun d => d.parameters.length) = some 4 := by decide +kernel
def fX7_next_J175 (v1 v5 : Int32) : Option Int32 := (if v1 = (32 : Int32) then some (4 : Int32) else (if v5 = 0 then some (-1 : Int32) else some (5 : Int32)))
def fX7_next_J44 (v0 v1 v2 v4 t0 : Int32) : Option Int32 := (if v0 = (0 : Int32) then (if v1 = (32 : Int32) then some (0 : Int32) else (if v1 = (40 : Int32) then (if v4 = 0 then (if v4 = 0 then some (-1 : Int32) else some (1 : Int32)) else some (0 : Int32)) else (if v4 = 0 then some (-1 : Int32) else some (1 : Int32)))) else (if v0 = (1 : Int32) then (if v1 = (43 : Int32) then some (2 : Int32) else (if v1 = (45 : Int32) then some (2 : Int32) else some (-1 : Int32))) else (if v0 = (2 : Int32) then bP (fX7_isIn v1 (48 : Int32) (57 : Int32)) (fun r143 => (if r143 = 0 then some (-1 : Int32) else some (3 : Int32))) else (if v0 = (3 : Int32) then bP (fX7_isIn v1 (48 : Int32) (57 : Int32)) (fun r160 => (if r160 = 0 then fX7_next_J175 v1 t0 else (if (3 : Int32) ≤ v2 then fX7_next_J175 v1 t0 else some (3 : Int32)))) else (if v0 = (4 : Int32) then (if v1 = (32 : Int32) then some (4 : Int32) else (if t0 = 0 then (if v1 = (40 : Int32) then (if v4 = 0 then (if v4 = 0 then some (-1 : Int32) else some (1 : Int32)) else some (0 : Int32)) else (if v4 = 0 then some (-1 : Int32) else some (1 : Int32))) else some (5 : Int32))) else (if v0 = (5 : Int32) then (if v1 = (120 : Int32) then some (6 : Int32) else (if v1 = (32 : Int32) then some (4 : Int32) else (if t0 = 0 then some (-1 : Int32) else some (5 : Int32)))) else (if v0 = (6 : Int32) then bP (fX7_isIn v1 (49 : Int32) (57 : Int32)) (fun r278 => (if r278 = 0 then some (-1 : Int32) else some (7 : Int32))) else (if v1 = (32 : Int32) then some (4 : Int32) else (if t0 = 0 then some (-1 : Int32) else some (5 : Int32))))))))))
def fX7_next_J43 (v0 v1 v2 v4 : Int32) : Option Int32 := fX7_next_J44 v0 v1 v2 v4 (0 : Int32)
def fX7_next_J27 (v0 v1 v2 v3 t0 : Int32) : Option Int32 := (if v1 = (41 : Int32) then (if v3 ≤ 0 then fX7_next_J43 v0 v1 v2 t0 else fX7_next_J44 v0 v1 v2 t0 (1 : Int32)) else fX7_next_J43 v0 v1 v2 t0)
def fX7_next_J22 (v0 v1 v2 v3 : Int32) : Option Int32 := fX7_next_J27 v0 v1 v2 v3 (1 : Int32)
def fX7_next_J26 (v0 v1 v2 v3 : Int32) : Option Int32 := fX7_next_J27 v0 v1 v2 v3 (0 : Int32)
def fX7_next (v0 v1 v2 v3 : Int32) : Option Int32 := bP (fX7_isIn v1 (97 : Int32) (104 : Int32)) (fun r5 => (if r5 = 0 then (if v1 = (40 : Int32) then (if (5 : Int32) ≤ v3 then fX7_next_J26 v0 v1 v2 v3 else fX7_next_J22 v0 v1 v2 v3) else fX7_next_J26 v0 v1 v2 v3) else fX7_next_J22 v0 v1 v2 v3))
set_option maxRecDepth 100000 in
set_option maxHeartbeats 4000000 in
theorem sX7_next_J175 {X : JX} {cI cZ cO cJ : ClassId} {wv : va_W} {post : Option Value → va_W → Prop} (hX : jOK X cX7_next 6 wsX7_next RX7 rmX7_next) (hT : jT X = jTy cI cZ cO cJ) (hGX : jG X jG0) (hret : jRI X cX7_next rmX7_next post) {o : Int32}   (hro : ∀ v9 : Int32, o = v9 → post (some (.int v9)) wv) {v1 v5 : Int32} (h : fX7_next_J175 v1 v5 = some o) : JW X 0 0 wv 175 [(1, .int v1), (5, .int v5)] [] := by
  unfold fX7_next_J175 at h
  refine jw_iload_n hX dX7_next_175 rfl 0 rfl ?_
  refine jw_bipush (v := (32 : Int32)) hX dX7_next_176 (by decide) ?_
  refine jw_icmp_ne (tgt := 185) hX dX7_next_178 (by decide) (fun hc => ?_) (fun hc => ?_)
  · rw [if_neg hc] at h
    refine jw_iload hX dX7_next_185 1 rfl ?_
    refine jw_if_eq (tgt := 194) hX dX7_next_187 (by decide) (fun hc => ?_) (fun hc => ?_)
    · rw [if_pos hc] at h
      refine jw_iconst (v := (-1 : Int32)) hX dX7_next_194 (by decide) ?_
      exact hret _ _ _ _ _ _ (Nat.zero_le _) (Nat.zero_le _) dX7_next_195 (hro _ (Option.some.inj h).symm)
    · rw [if_neg hc] at h
      refine jw_iconst (v := (5 : Int32)) hX dX7_next_190 (by decide) ?_
      refine jw_goto (tgt := 195) hX dX7_next_191 (by decide) ?_
      exact hret _ _ _ _ _ _ (Nat.zero_le _) (Nat.zero_le _) dX7_next_195 (hro _ (Option.some.inj h).symm)
  · rw [if_pos hc] at h
    refine jw_iconst (v := (4 : Int32)) hX dX7_next_181 (by decide) ?_
    refine jw_goto (tgt := 195) hX dX7_next_182 (by decide) ?_
    exact hret _ _ _ _ _ _ (Nat.zero_le _) (Nat.zero_le _) dX7_next_195 (hro _ (Option.some.inj h).symm)
set_option maxRecDepth 100000 in
set_option maxHeartbeats 4000000 in
theorem sX7_next_J44 {X : JX} {cI cZ cO cJ : ClassId} {wv : va_W} {post : Option Value → va_W → Prop} (hX : jOK X cX7_next 6 wsX7_next RX7 rmX7_next) (hT : jT X = jTy cI cZ cO cJ) (hGX : jG X jG0) (hret : jRI X cX7_next rmX7_next post) {o : Int32}   (hro : ∀ v9 : Int32, o = v9 → post (some (.int v9)) wv) {v0 v1 v2 v4 t0 : Int32} (h : fX7_next_J44 v0 v1 v2 v4 t0 = some o) : JW X 0 0 wv 44 [(0, .int v0), (1, .int v1), (2, .int v2), (4, .int v4)] [.int t0] := by
  unfold fX7_next_J44 at h
  refine jw_istore hX [(5, .int t0), (0, .int v0), (1, .int v1), (2, .int v2), (4, .int v4)] dX7_next_44 (by decide) rfl ?_
  refine jw_iload_n hX dX7_next_46 rfl 1 rfl ?_
  by_cases hc0 : v0 = (0 : Int32)
  · rw [if_pos hc0] at h
    refine jw_tableIn (tgt := 88) (off := 41) hX 0 dX7_next_47 hc0 (by decide) (by decide) (by decide) (by decide) ?_
    refine jw_iload_n hX dX7_next_88 rfl 2 rfl ?_
    refine jw_bipush (v := (32 : Int32)) hX dX7_next_89 (by decide) ?_
    refine jw_icmp_eq (tgt := 105) hX dX7_next_91 (by decide) (fun hc => ?_) (fun hc => ?_)
    · rw [if_pos hc] at h
      refine jw_iconst (v := (0 : Int32)) hX dX7_next_105 (by decide) ?_
      refine jw_goto (tgt := 119) hX dX7_next_106 (by decide) ?_
      exact hret _ _ _ _ _ _ (Nat.zero_le _) (Nat.zero_le _) dX7_next_119 (hro _ (Option.some.inj h).symm)
    · rw [if_neg hc] at h
      refine jw_iload_n hX dX7_next_94 rfl 2 rfl ?_
      refine jw_bipush (v := (40 : Int32)) hX dX7_next_95 (by decide) ?_
      refine jw_icmp_ne (tgt := 109) hX dX7_next_97 (by decide) (fun hc => ?_) (fun hc => ?_)
      · rw [if_neg hc] at h
        refine jw_iload hX dX7_next_109 4 rfl ?_
        refine jw_if_eq (tgt := 118) hX dX7_next_111 (by decide) (fun hc => ?_) (fun hc => ?_)
        · rw [if_pos hc] at h
          refine jw_iconst (v := (-1 : Int32)) hX dX7_next_118 (by decide) ?_
          exact hret _ _ _ _ _ _ (Nat.zero_le _) (Nat.zero_le _) dX7_next_119 (hro _ (Option.some.inj h).symm)
        · rw [if_neg hc] at h
          refine jw_iconst (v := (1 : Int32)) hX dX7_next_114 (by decide) ?_
          refine jw_goto (tgt := 119) hX dX7_next_115 (by decide) ?_
          exact hret _ _ _ _ _ _ (Nat.zero_le _) (Nat.zero_le _) dX7_next_119 (hro _ (Option.some.inj h).symm)
      · rw [if_pos hc] at h
        refine jw_iload hX dX7_next_100 4 rfl ?_
        refine jw_if_eq (tgt := 109) hX dX7_next_102 (by decide) (fun hc => ?_) (fun hc => ?_)
        · rw [if_pos hc] at h
          refine jw_iload hX dX7_next_109 4 rfl ?_
          refine jw_if_eq (tgt := 118) hX dX7_next_111 (by decide) (fun hc => ?_) (fun hc => ?_)
          · rw [if_pos hc] at h
            refine jw_iconst (v := (-1 : Int32)) hX dX7_next_118 (by decide) ?_
            exact hret _ _ _ _ _ _ (Nat.zero_le _) (Nat.zero_le _) dX7_next_119 (hro _ (Option.some.inj h).symm)
          · rw [if_neg hc] at h
            refine jw_iconst (v := (1 : Int32)) hX dX7_next_114 (by decide) ?_
            refine jw_goto (tgt := 119) hX dX7_next_115 (by decide) ?_
            exact hret _ _ _ _ _ _ (Nat.zero_le _) (Nat.zero_le _) dX7_next_119 (hro _ (Option.some.inj h).symm)
        · rw [if_neg hc] at h
          refine jw_iconst (v := (0 : Int32)) hX dX7_next_105 (by decide) ?_
          refine jw_goto (tgt := 119) hX dX7_next_106 (by decide) ?_
          exact hret _ _ _ _ _ _ (Nat.zero_le _) (Nat.zero_le _) dX7_next_119 (hro _ (Option.some.inj h).symm)
  · rw [if_neg hc0] at h
    by_cases hc1 : v0 = (1 : Int32)
    · rw [if_pos hc1] at h
      refine jw_tableIn (tgt := 120) (off := 73) hX 1 dX7_next_47 hc1 (by decide) (by decide) (by decide) (by decide) ?_
      refine jw_iload_n hX dX7_next_120 rfl 2 rfl ?_
      refine jw_bipush (v := (43 : Int32)) hX dX7_next_121 (by decide) ?_
      refine jw_icmp_eq (tgt := 132) hX dX7_next_123 (by decide) (fun hc => ?_) (fun hc => ?_)
      · rw [if_pos hc] at h
        refine jw_iconst (v := (2 : Int32)) hX dX7_next_132 (by decide) ?_
        refine jw_goto (tgt := 137) hX dX7_next_133 (by decide) ?_
        exact hret _ _ _ _ _ _ (Nat.zero_le _) (Nat.zero_le _) dX7_next_137 (hro _ (Option.some.inj h).symm)
      · rw [if_neg hc] at h
        refine jw_iload_n hX dX7_next_126 rfl 2 rfl ?_
        refine jw_bipush (v := (45 : Int32)) hX dX7_next_127 (by decide) ?_
        refine jw_icmp_ne (tgt := 136) hX dX7_next_129 (by decide) (fun hc => ?_) (fun hc => ?_)
        · rw [if_neg hc] at h
          refine jw_iconst (v := (-1 : Int32)) hX dX7_next_136 (by decide) ?_
          exact hret _ _ _ _ _ _ (Nat.zero_le _) (Nat.zero_le _) dX7_next_137 (hro _ (Option.some.inj h).symm)
        · rw [if_pos hc] at h
          refine jw_iconst (v := (2 : Int32)) hX dX7_next_132 (by decide) ?_
          refine jw_goto (tgt := 137) hX dX7_next_133 (by decide) ?_
          exact hret _ _ _ _ _ _ (Nat.zero_le _) (Nat.zero_le _) dX7_next_137 (hro _ (Option.some.inj h).symm)
    · rw [if_neg hc1] at h
      by_cases hc2 : v0 = (2 : Int32)
      · rw [if_pos hc2] at h
        refine jw_tableIn (tgt := 138) (off := 91) hX 2 dX7_next_47 hc2 (by decide) (by decide) (by decide) (by decide) ?_
        refine jw_iload_n hX dX7_next_138 rfl 2 rfl ?_
        refine jw_bipush (v := (48 : Int32)) hX dX7_next_139 (by decide) ?_
        refine jw_bipush (v := (57 : Int32)) hX dX7_next_141 (by decide) ?_
        obtain ⟨r143, hc143, h⟩ := bP_some h
        refine jw_cSi (As := [.int v1, .int (48 : Int32), .int (57 : Int32)]) hX jG0_ok hGX 3 (kX7_isIn hT hc143) gX7_next_X7_isIn rfl hdX7_isIn ⟨by decide, by decide⟩ rfl (Nat.le_of_ble_eq_true rfl) dX7_next_143 rfl rfl ⟨by decide, by decide⟩ ?_
        refine jw_if_eq (tgt := 153) hX dX7_next_146 (by decide) (fun hc => ?_) (fun hc => ?_)
        · rw [if_pos hc] at h
          refine jw_iconst (v := (-1 : Int32)) hX dX7_next_153 (by decide) ?_
          exact hret _ _ _ _ _ _ (Nat.zero_le _) (Nat.zero_le _) dX7_next_154 (hro _ (Option.some.inj h).symm)
        · rw [if_neg hc] at h
          refine jw_iconst (v := (3 : Int32)) hX dX7_next_149 (by decide) ?_
          refine jw_goto (tgt := 154) hX dX7_next_150 (by decide) ?_
          exact hret _ _ _ _ _ _ (Nat.zero_le _) (Nat.zero_le _) dX7_next_154 (hro _ (Option.some.inj h).symm)
      · rw [if_neg hc2] at h
        by_cases hc3 : v0 = (3 : Int32)
        · rw [if_pos hc3] at h
          refine jw_tableIn (tgt := 155) (off := 108) hX 3 dX7_next_47 hc3 (by decide) (by decide) (by decide) (by decide) ?_
          refine jw_iload_n hX dX7_next_155 rfl 2 rfl ?_
          refine jw_bipush (v := (48 : Int32)) hX dX7_next_156 (by decide) ?_
          refine jw_bipush (v := (57 : Int32)) hX dX7_next_158 (by decide) ?_
          obtain ⟨r160, hc160, h⟩ := bP_some h
          refine jw_cSi (As := [.int v1, .int (48 : Int32), .int (57 : Int32)]) hX jG0_ok hGX 3 (kX7_isIn hT hc160) gX7_next_X7_isIn rfl hdX7_isIn ⟨by decide, by decide⟩ rfl (Nat.le_of_ble_eq_true rfl) dX7_next_160 rfl rfl ⟨by decide, by decide⟩ ?_
          refine jw_if_eq (tgt := 175) hX dX7_next_163 (by decide) (fun hc => ?_) (fun hc => ?_)
          · rw [if_pos hc] at h
            refine jw_sub [2, 0] [(1, .int v1), (5, .int t0)] rfl ?_
            exact sX7_next_J175 hX hT hGX hret hro h
          · rw [if_neg hc] at h
            refine jw_iload_n hX dX7_next_166 rfl 3 rfl ?_
            refine jw_iconst (v := (3 : Int32)) hX dX7_next_167 (by decide) ?_
            refine jw_icmp_ge (tgt := 175) hX dX7_next_168 (by decide) (fun hc => ?_) (fun hc => ?_)
            · rw [if_pos hc] at h
              refine jw_sub [2, 0] [(1, .int v1), (5, .int t0)] rfl ?_
              exact sX7_next_J175 hX hT hGX hret hro h
            · rw [if_neg hc] at h
              refine jw_iconst (v := (3 : Int32)) hX dX7_next_171 (by decide) ?_
              refine jw_goto (tgt := 195) hX dX7_next_172 (by decide) ?_
              exact hret _ _ _ _ _ _ (Nat.zero_le _) (Nat.zero_le _) dX7_next_195 (hro _ (Option.some.inj h).symm)
        · rw [if_neg hc3] at h
          by_cases hc4 : v0 = (4 : Int32)
          · rw [if_pos hc4] at h
            refine jw_tableIn (tgt := 196) (off := 149) hX 4 dX7_next_47 hc4 (by decide) (by decide) (by decide) (by decide) ?_
            refine jw_iload_n hX dX7_next_196 rfl 2 rfl ?_
            refine jw_bipush (v := (32 : Int32)) hX dX7_next_197 (by decide) ?_
            refine jw_icmp_ne (tgt := 206) hX dX7_next_199 (by decide) (fun hc => ?_) (fun hc => ?_)
            · rw [if_neg hc] at h
              refine jw_iload hX dX7_next_206 0 rfl ?_
              refine jw_if_eq (tgt := 215) hX dX7_next_208 (by decide) (fun hc => ?_) (fun hc => ?_)
              · rw [if_pos hc] at h
                refine jw_iload_n hX dX7_next_215 rfl 2 rfl ?_
                refine jw_bipush (v := (40 : Int32)) hX dX7_next_216 (by decide) ?_
                refine jw_icmp_ne (tgt := 230) hX dX7_next_218 (by decide) (fun hc => ?_) (fun hc => ?_)
                · rw [if_neg hc] at h
                  refine jw_iload hX dX7_next_230 4 rfl ?_
                  refine jw_if_eq (tgt := 239) hX dX7_next_232 (by decide) (fun hc => ?_) (fun hc => ?_)
                  · rw [if_pos hc] at h
                    refine jw_iconst (v := (-1 : Int32)) hX dX7_next_239 (by decide) ?_
                    exact hret _ _ _ _ _ _ (Nat.zero_le _) (Nat.zero_le _) dX7_next_240 (hro _ (Option.some.inj h).symm)
                  · rw [if_neg hc] at h
                    refine jw_iconst (v := (1 : Int32)) hX dX7_next_235 (by decide) ?_
                    refine jw_goto (tgt := 240) hX dX7_next_236 (by decide) ?_
                    exact hret _ _ _ _ _ _ (Nat.zero_le _) (Nat.zero_le _) dX7_next_240 (hro _ (Option.some.inj h).symm)
                · rw [if_pos hc] at h
                  refine jw_iload hX dX7_next_221 4 rfl ?_
                  refine jw_if_eq (tgt := 230) hX dX7_next_223 (by decide) (fun hc => ?_) (fun hc => ?_)
                  · rw [if_pos hc] at h
                    refine jw_iload hX dX7_next_230 4 rfl ?_
                    refine jw_if_eq (tgt := 239) hX dX7_next_232 (by decide) (fun hc => ?_) (fun hc => ?_)
                    · rw [if_pos hc] at h
                      refine jw_iconst (v := (-1 : Int32)) hX dX7_next_239 (by decide) ?_
                      exact hret _ _ _ _ _ _ (Nat.zero_le _) (Nat.zero_le _) dX7_next_240 (hro _ (Option.some.inj h).symm)
                    · rw [if_neg hc] at h
                      refine jw_iconst (v := (1 : Int32)) hX dX7_next_235 (by decide) ?_
                      refine jw_goto (tgt := 240) hX dX7_next_236 (by decide) ?_
                      exact hret _ _ _ _ _ _ (Nat.zero_le _) (Nat.zero_le _) dX7_next_240 (hro _ (Option.some.inj h).symm)
                  · rw [if_neg hc] at h
                    refine jw_iconst (v := (0 : Int32)) hX dX7_next_226 (by decide) ?_
                    refine jw_goto (tgt := 240) hX dX7_next_227 (by decide) ?_
                    exact hret _ _ _ _ _ _ (Nat.zero_le _) (Nat.zero_le _) dX7_next_240 (hro _ (Option.some.inj h).symm)
              · rw [if_neg hc] at h
                refine jw_iconst (v := (5 : Int32)) hX dX7_next_211 (by decide) ?_
                refine jw_goto (tgt := 240) hX dX7_next_212 (by decide) ?_
                exact hret _ _ _ _ _ _ (Nat.zero_le _) (Nat.zero_le _) dX7_next_240 (hro _ (Option.some.inj h).symm)
            · rw [if_pos hc] at h
              refine jw_iconst (v := (4 : Int32)) hX dX7_next_202 (by decide) ?_
              refine jw_goto (tgt := 240) hX dX7_next_203 (by decide) ?_
              exact hret _ _ _ _ _ _ (Nat.zero_le _) (Nat.zero_le _) dX7_next_240 (hro _ (Option.some.inj h).symm)
          · rw [if_neg hc4] at h
            by_cases hc5 : v0 = (5 : Int32)
            · rw [if_pos hc5] at h
              refine jw_tableIn (tgt := 241) (off := 194) hX 5 dX7_next_47 hc5 (by decide) (by decide) (by decide) (by decide) ?_
              refine jw_iload_n hX dX7_next_241 rfl 2 rfl ?_
              refine jw_bipush (v := (120 : Int32)) hX dX7_next_242 (by decide) ?_
              refine jw_icmp_ne (tgt := 252) hX dX7_next_244 (by decide) (fun hc => ?_) (fun hc => ?_)
              · rw [if_neg hc] at h
                refine jw_iload_n hX dX7_next_252 rfl 2 rfl ?_
                refine jw_bipush (v := (32 : Int32)) hX dX7_next_253 (by decide) ?_
                refine jw_icmp_ne (tgt := 262) hX dX7_next_255 (by decide) (fun hc => ?_) (fun hc => ?_)
                · rw [if_neg hc] at h
                  refine jw_iload hX dX7_next_262 0 rfl ?_
                  refine jw_if_eq (tgt := 271) hX dX7_next_264 (by decide) (fun hc => ?_) (fun hc => ?_)
                  · rw [if_pos hc] at h
                    refine jw_iconst (v := (-1 : Int32)) hX dX7_next_271 (by decide) ?_
                    exact hret _ _ _ _ _ _ (Nat.zero_le _) (Nat.zero_le _) dX7_next_272 (hro _ (Option.some.inj h).symm)
                  · rw [if_neg hc] at h
                    refine jw_iconst (v := (5 : Int32)) hX dX7_next_267 (by decide) ?_
                    refine jw_goto (tgt := 272) hX dX7_next_268 (by decide) ?_
                    exact hret _ _ _ _ _ _ (Nat.zero_le _) (Nat.zero_le _) dX7_next_272 (hro _ (Option.some.inj h).symm)
                · rw [if_pos hc] at h
                  refine jw_iconst (v := (4 : Int32)) hX dX7_next_258 (by decide) ?_
                  refine jw_goto (tgt := 272) hX dX7_next_259 (by decide) ?_
                  exact hret _ _ _ _ _ _ (Nat.zero_le _) (Nat.zero_le _) dX7_next_272 (hro _ (Option.some.inj h).symm)
              · rw [if_pos hc] at h
                refine jw_bipush (v := (6 : Int32)) hX dX7_next_247 (by decide) ?_
                refine jw_goto (tgt := 272) hX dX7_next_249 (by decide) ?_
                exact hret _ _ _ _ _ _ (Nat.zero_le _) (Nat.zero_le _) dX7_next_272 (hro _ (Option.some.inj h).symm)
            · rw [if_neg hc5] at h
              by_cases hc6 : v0 = (6 : Int32)
              · rw [if_pos hc6] at h
                refine jw_tableIn (tgt := 273) (off := 226) hX 6 dX7_next_47 hc6 (by decide) (by decide) (by decide) (by decide) ?_
                refine jw_iload_n hX dX7_next_273 rfl 2 rfl ?_
                refine jw_bipush (v := (49 : Int32)) hX dX7_next_274 (by decide) ?_
                refine jw_bipush (v := (57 : Int32)) hX dX7_next_276 (by decide) ?_
                obtain ⟨r278, hc278, h⟩ := bP_some h
                refine jw_cSi (As := [.int v1, .int (49 : Int32), .int (57 : Int32)]) hX jG0_ok hGX 3 (kX7_isIn hT hc278) gX7_next_X7_isIn rfl hdX7_isIn ⟨by decide, by decide⟩ rfl (Nat.le_of_ble_eq_true rfl) dX7_next_278 rfl rfl ⟨by decide, by decide⟩ ?_
                refine jw_if_eq (tgt := 289) hX dX7_next_281 (by decide) (fun hc => ?_) (fun hc => ?_)
                · rw [if_pos hc] at h
                  refine jw_iconst (v := (-1 : Int32)) hX dX7_next_289 (by decide) ?_
                  exact hret _ _ _ _ _ _ (Nat.zero_le _) (Nat.zero_le _) dX7_next_290 (hro _ (Option.some.inj h).symm)
                · rw [if_neg hc] at h
                  refine jw_bipush (v := (7 : Int32)) hX dX7_next_284 (by decide) ?_
                  refine jw_goto (tgt := 290) hX dX7_next_286 (by decide) ?_
                  exact hret _ _ _ _ _ _ (Nat.zero_le _) (Nat.zero_le _) dX7_next_290 (hro _ (Option.some.inj h).symm)
              · rw [if_neg hc6] at h
                refine jw_tableOut (tgt := 291) (hi := 6) hX (by decide) dX7_next_47 (fun j hj e9 => ?_) (by decide) ?_
                · match j, hj, e9 with
                  | 0, _, e9 => exact hc0 e9
                  | 1, _, e9 => exact hc1 e9
                  | 2, _, e9 => exact hc2 e9
                  | 3, _, e9 => exact hc3 e9
                  | 4, _, e9 => exact hc4 e9
                  | 5, _, e9 => exact hc5 e9
                  | 6, _, e9 => exact hc6 e9
                  | j + 7, hj, _ => exact absurd hj (by omega)
                · refine jw_iload_n hX dX7_next_291 rfl 2 rfl ?_
                  refine jw_bipush (v := (32 : Int32)) hX dX7_next_292 (by decide) ?_
                  refine jw_icmp_ne (tgt := 301) hX dX7_next_294 (by decide) (fun hc => ?_) (fun hc => ?_)
                  · rw [if_neg hc] at h
                    refine jw_iload hX dX7_next_301 0 rfl ?_
                    refine jw_if_eq (tgt := 310) hX dX7_next_303 (by decide) (fun hc => ?_) (fun hc => ?_)
                    · rw [if_pos hc] at h
                      refine jw_iconst (v := (-1 : Int32)) hX dX7_next_310 (by decide) ?_
                      exact hret _ _ _ _ _ _ (Nat.zero_le _) (Nat.zero_le _) dX7_next_311 (hro _ (Option.some.inj h).symm)
                    · rw [if_neg hc] at h
                      refine jw_iconst (v := (5 : Int32)) hX dX7_next_306 (by decide) ?_
                      refine jw_goto (tgt := 311) hX dX7_next_307 (by decide) ?_
                      exact hret _ _ _ _ _ _ (Nat.zero_le _) (Nat.zero_le _) dX7_next_311 (hro _ (Option.some.inj h).symm)
                  · rw [if_pos hc] at h
                    refine jw_iconst (v := (4 : Int32)) hX dX7_next_297 (by decide) ?_
                    refine jw_goto (tgt := 311) hX dX7_next_298 (by decide) ?_
                    exact hret _ _ _ _ _ _ (Nat.zero_le _) (Nat.zero_le _) dX7_next_311 (hro _ (Option.some.inj h).symm)
set_option maxRecDepth 100000 in
set_option maxHeartbeats 4000000 in
theorem sX7_next_J43 {X : JX} {cI cZ cO cJ : ClassId} {wv : va_W} {post : Option Value → va_W → Prop} (hX : jOK X cX7_next 6 wsX7_next RX7 rmX7_next) (hT : jT X = jTy cI cZ cO cJ) (hGX : jG X jG0) (hret : jRI X cX7_next rmX7_next post) {o : Int32}   (hro : ∀ v9 : Int32, o = v9 → post (some (.int v9)) wv) {v0 v1 v2 v4 : Int32} (h : fX7_next_J43 v0 v1 v2 v4 = some o) : JW X 0 0 wv 43 [(0, .int v0), (1, .int v1), (2, .int v2), (4, .int v4)] [] := by
  unfold fX7_next_J43 at h
  refine jw_iconst (v := (0 : Int32)) hX dX7_next_43 (by decide) ?_
  exact sX7_next_J44 hX hT hGX hret hro h
set_option maxRecDepth 100000 in
set_option maxHeartbeats 4000000 in
theorem sX7_next_J27 {X : JX} {cI cZ cO cJ : ClassId} {wv : va_W} {post : Option Value → va_W → Prop} (hX : jOK X cX7_next 6 wsX7_next RX7 rmX7_next) (hT : jT X = jTy cI cZ cO cJ) (hGX : jG X jG0) (hret : jRI X cX7_next rmX7_next post) {o : Int32}   (hro : ∀ v9 : Int32, o = v9 → post (some (.int v9)) wv) {v0 v1 v2 v3 t0 : Int32} (h : fX7_next_J27 v0 v1 v2 v3 t0 = some o) : JW X 0 0 wv 27 [(0, .int v0), (1, .int v1), (2, .int v2), (3, .int v3)] [.int t0] := by
  unfold fX7_next_J27 at h
  refine jw_istore hX [(4, .int t0), (0, .int v0), (1, .int v1), (2, .int v2), (3, .int v3)] dX7_next_27 (by decide) rfl ?_
  refine jw_iload_n hX dX7_next_29 rfl 2 rfl ?_
  refine jw_bipush (v := (41 : Int32)) hX dX7_next_30 (by decide) ?_
  refine jw_icmp_ne (tgt := 43) hX dX7_next_32 (by decide) (fun hc => ?_) (fun hc => ?_)
  · rw [if_neg hc] at h
    refine jw_sub [1, 2, 3, 0] [(0, .int v0), (1, .int v1), (2, .int v2), (4, .int t0)] rfl ?_
    exact sX7_next_J43 hX hT hGX hret hro h
  · rw [if_pos hc] at h
    refine jw_iload_n hX dX7_next_35 rfl 4 rfl ?_
    refine jw_if_le (tgt := 43) hX dX7_next_36 (by decide) (fun hc => ?_) (fun hc => ?_)
    · rw [if_pos hc] at h
      refine jw_sub [1, 2, 3, 0] [(0, .int v0), (1, .int v1), (2, .int v2), (4, .int t0)] rfl ?_
      exact sX7_next_J43 hX hT hGX hret hro h
    · rw [if_neg hc] at h
      refine jw_iconst (v := (1 : Int32)) hX dX7_next_39 (by decide) ?_
      refine jw_goto (tgt := 44) hX dX7_next_40 (by decide) ?_
      refine jw_sub [1, 2, 3, 0] [(0, .int v0), (1, .int v1), (2, .int v2), (4, .int t0)] rfl ?_
      exact sX7_next_J44 hX hT hGX hret hro h
set_option maxRecDepth 100000 in
set_option maxHeartbeats 4000000 in
theorem sX7_next_J22 {X : JX} {cI cZ cO cJ : ClassId} {wv : va_W} {post : Option Value → va_W → Prop} (hX : jOK X cX7_next 6 wsX7_next RX7 rmX7_next) (hT : jT X = jTy cI cZ cO cJ) (hGX : jG X jG0) (hret : jRI X cX7_next rmX7_next post) {o : Int32}   (hro : ∀ v9 : Int32, o = v9 → post (some (.int v9)) wv) {v0 v1 v2 v3 : Int32} (h : fX7_next_J22 v0 v1 v2 v3 = some o) : JW X 0 0 wv 22 [(0, .int v0), (1, .int v1), (2, .int v2), (3, .int v3)] [] := by
  unfold fX7_next_J22 at h
  refine jw_iconst (v := (1 : Int32)) hX dX7_next_22 (by decide) ?_
  refine jw_goto (tgt := 27) hX dX7_next_23 (by decide) ?_
  exact sX7_next_J27 hX hT hGX hret hro h
set_option maxRecDepth 100000 in
set_option maxHeartbeats 4000000 in
theorem sX7_next_J26 {X : JX} {cI cZ cO cJ : ClassId} {wv : va_W} {post : Option Value → va_W → Prop} (hX : jOK X cX7_next 6 wsX7_next RX7 rmX7_next) (hT : jT X = jTy cI cZ cO cJ) (hGX : jG X jG0) (hret : jRI X cX7_next rmX7_next post) {o : Int32}   (hro : ∀ v9 : Int32, o = v9 → post (some (.int v9)) wv) {v0 v1 v2 v3 : Int32} (h : fX7_next_J26 v0 v1 v2 v3 = some o) : JW X 0 0 wv 26 [(0, .int v0), (1, .int v1), (2, .int v2), (3, .int v3)] [] := by
  unfold fX7_next_J26 at h
  refine jw_iconst (v := (0 : Int32)) hX dX7_next_26 (by decide) ?_
  exact sX7_next_J27 hX hT hGX hret hro h
set_option maxRecDepth 100000 in
set_option maxHeartbeats 4000000 in
theorem sX7_next {X : JX} {cI cZ cO cJ : ClassId} {wv : va_W} {post : Option Value → va_W → Prop} (hX : jOK X cX7_next 6 wsX7_next RX7 rmX7_next) (hT : jT X = jTy cI cZ cO cJ) (hGX : jG X jG0) (hret : jRI X cX7_next rmX7_next post) {o : Int32} (hro : ∀ v9 : Int32, o = v9 → post (some (.int v9)) wv) {v0 v1 v2 v3 : Int32} (h : fX7_next v0 v1 v2 v3 = some o) : JW X 0 0 wv 0 [(0, .int v0), (1, .int v1), (2, .int v2), (3, .int v3)] [] := by
  unfold fX7_next at h
  refine jw_iload_n hX dX7_next_0 rfl 1 rfl ?_
  refine jw_bipush (v := (97 : Int32)) hX dX7_next_1 (by decide) ?_
  refine jw_bipush (v := (104 : Int32)) hX dX7_next_3 (by decide) ?_
  obtain ⟨r5, hc5, h⟩ := bP_some h
  refine jw_cSi (As := [.int v1, .int (97 : Int32), .int (104 : Int32)]) hX jG0_ok hGX 3 (kX7_isIn hT hc5) gX7_next_X7_isIn rfl hdX7_isIn ⟨by decide, by decide⟩ rfl (Nat.le_of_ble_eq_true rfl) dX7_next_5 rfl rfl ⟨by decide, by decide⟩ ?_
  refine jw_if_ne (tgt := 22) hX dX7_next_8 (by decide) (fun hc => ?_) (fun hc => ?_)
  · rw [if_neg hc] at h
    exact sX7_next_J22 hX hT hGX hret hro h
  · rw [if_pos hc] at h
    refine jw_iload_n hX dX7_next_11 rfl 1 rfl ?_
    refine jw_bipush (v := (40 : Int32)) hX dX7_next_12 (by decide) ?_
    refine jw_icmp_ne (tgt := 26) hX dX7_next_14 (by decide) (fun hc => ?_) (fun hc => ?_)
    · rw [if_neg hc] at h
      exact sX7_next_J26 hX hT hGX hret hro h
    · rw [if_pos hc] at h
      refine jw_iload_n hX dX7_next_17 rfl 3 rfl ?_
      refine jw_iconst (v := (5 : Int32)) hX dX7_next_18 (by decide) ?_
      refine jw_icmp_ge (tgt := 26) hX dX7_next_19 (by decide) (fun hc => ?_) (fun hc => ?_)
      · rw [if_pos hc] at h
        exact sX7_next_J26 hX hT hGX hret hro h
      · rw [if_neg hc] at h
        exact sX7_next_J22 hX hT hGX hret hro h
set_option maxRecDepth 100000 in
set_option maxHeartbeats 4000000 in
theorem kX7_next {l : Launch} {D : va_G} {tys : List (ClassId × FieldType)} {cI cZ cO cJ : ClassId} {wv : va_W} {v0 v1 v2 v3 : Int32} {r : Int32} (hT : tys = jTy cI cZ cO cJ) (h : fX7_next v0 v1 v2 v3 = some r) : CC l jG0 D tys yX7_next wsX7_next rmX7_next [.int v0, .int v1, .int v2, .int v3] wv (fun ov w2 => ov = some (.int r) ∧ w2 = wv) := by
  refine CC_of (cc := cX7_next) (maxL := 6) (ret := (some .int)) (by decide) rfl (Nat.le_of_ble_eq_true rfl) ?_
  intro X hD hL hT0 hGX hX rI rZ rV rA
  exact sX7_next (post := fun ov w2 => ov = some (.int r) ∧ w2 = wv) hX (hT0.trans hT) hGX (fun cells slots w9 pc lv v => rI cells slots w9 pc lv v rfl) (o := r) (fun v9 e9 => by cases e9; exact ⟨rfl, rfl⟩) h
/-! X7_draftFault -/
abbrev rmX7_draftFault : Room := { frames := 2, cells := 0, slots := 0, locals := 47 }
theorem hdX7_draftFault : yX7_draftFault.cls = RX7 ∧ yX7_draftFault.cls ≠ "java/lang/invoke/MethodHandle" ∧ yX7_draftFault.cls ≠ "java/lang/invoke/VarHandle" ∧ (parseMethodDescriptor yX7_draftFault.desc).map (fun d => d.parameters.length) = some 0 := by decide +kernel
theorem inX7_draftFault : ∀ w ∈ wsX70, w ∈ wsX7_draftFault := fun _ h => List.mem_cons_of_mem _ (List.mem_append_right _ h)
theorem lkX7_draftFault_133 : Cond.fieldLink RX7 133 "PostlintModel" (TX7 1).2.1 (TX7 1).2.2.1 ∈ wsX7_draftFault := by decide +kernel
theorem lkX7_draftFault_7 : Cond.fieldLink RX7 7 "PostlintModel" (TX7 2).2.1 (TX7 2).2.2.1 ∈ wsX7_draftFault := by decide +kernel
def fX7_draftFault_J70 (n : Nat) (rec : MW → Int32 → Int32 → Int32 → Int32 → Option (Int32 ⊕ (Int32 × Int32))) (w : MW) (v3 v4 v6 t0 t1 : Int32) : Option (Int32 ⊕ (Int32 × Int32)) := bnd ((t1 + t0)) (fun y71 => (if v6 = (3 : Int32) then bnd ((v3 + (1 : Int32))) (fun y85 => rec w v6 y71 y85 ((v4 + (1 : Int32)))) else rec w v6 y71 ((0 : Int32)) ((v4 + (1 : Int32)))))
def fX7_draftFault_L9 (n : Nat) : Nat → MW → Int32 → Int32 → Int32 → Int32 → Option (Int32 ⊕ (Int32 × Int32))
  | 0, _, _, _, _, _ => none
  | k + 1, w, v1, v2, v3, v4 => (if (w.1 1) ≤ v4 then some (Sum.inr (v1, v2)) else chk (inB v4 (mLen 2)) (bnd ((w.2 2 (v4).toNatClampNeg)) (fun y25 => bP (fX7_next v1 y25 v3 v2) (fun r32 => (if r32 = (-1 : Int32) then some (Sum.inl v4) else (if y25 = (40 : Int32) then fX7_draftFault_J70 n (fX7_draftFault_L9 n k) w v3 v4 r32 (1 : Int32) v2 else (if y25 = (41 : Int32) then fX7_draftFault_J70 n (fX7_draftFault_L9 n k) w v3 v4 r32 (-1 : Int32) v2 else fX7_draftFault_J70 n (fX7_draftFault_L9 n k) w v3 v4 r32 (0 : Int32) v2)))))))
def fX7_draftFault_J121 (n : Nat) (w : MW) (v2 t0 : Int32) : Option Int32 := (if t0 = 0 then some (w.1 1) else (if v2 = 0 then some (-1 : Int32) else some (w.1 1)))
def fX7_draftFault_J116 (n : Nat) (w : MW) (v2 : Int32) : Option Int32 := fX7_draftFault_J121 n w v2 (1 : Int32)
def fX7_draftFault (n : Nat) (w : MW) : Option Int32 := bS2 (fX7_draftFault_L9 n n w (0 : Int32) (0 : Int32) (0 : Int32) (0 : Int32)) (fun rr => some rr) (fun x1_9 x2_9 => (if x1_9 = (3 : Int32) then fX7_draftFault_J116 n w x2_9 else (if x1_9 = (4 : Int32) then fX7_draftFault_J116 n w x2_9 else (if x1_9 = (5 : Int32) then fX7_draftFault_J116 n w x2_9 else (if x1_9 = (7 : Int32) then fX7_draftFault_J116 n w x2_9 else fX7_draftFault_J121 n w x2_9 (0 : Int32))))))
set_option maxRecDepth 100000 in
set_option maxHeartbeats 4000000 in
theorem sX7_draftFault_J70 {X : JX} {a : Nat} {ad : Nat → Nat} {cI cZ cO cJ : ClassId} {n : Nat} {w : MW} {post : Option Value → va_W → Prop} (hX : jOK X cX7_draftFault 7 wsX7_draftFault RX7 rmX7_draftFault) (hT : jT X = jTy cI cZ cO cJ) (hGX : jG X jG0) (hret : jRI X cX7_draftFault rmX7_draftFault post) {o : (Int32 ⊕ (Int32 × Int32))} {rec : MW → Int32 → Int32 → Int32 → Int32 → Option (Int32 ⊕ (Int32 × Int32))} (hrec : MW → ∀ (v1 v2 v3 v4 : Int32), rec w v1 v2 v3 v4 = some o → JW X 0 0 (mW a ad cI cZ w) 9 [(0, .ref a), (1, .int v1), (2, .int v2), (3, .int v3), (4, .int v4)] [])  (hex : ∀ (x1 x2 : Int32), o = .inr (x1, x2) → JW X 0 0 (mW a ad cI cZ w) 95 [(0, .ref a), (1, .int x1), (2, .int x2)] []) (hro : ∀ v9 : Int32, o = .inl v9 → post (some (.int v9)) (mW a ad cI cZ w)) {v3 v4 v6 t0 t1 : Int32} (h : fX7_draftFault_J70 n rec w v3 v4 v6 t0 t1 = some o) : JW X 0 0 (mW a ad cI cZ w) 70 [(0, .ref a), (3, .int v3), (4, .int v4), (6, .int v6)] [.int t0, .int t1] := by
  unfold fX7_draftFault_J70 at h
  refine jw_iadd hX dX7_draftFault_70 ?_
  refine jw_topi (fun y71 e71 => ?_)
  replace h := bnd_some h y71 e71
  clear e71
  refine jw_istore_n hX [(2, .int y71), (0, .ref a), (3, .int v3), (4, .int v4), (6, .int v6)] dX7_draftFault_71 rfl (by decide) rfl ?_
  refine jw_iload hX dX7_draftFault_72 4 rfl ?_
  refine jw_iconst (v := (3 : Int32)) hX dX7_draftFault_74 (by decide) ?_
  refine jw_icmp_ne (tgt := 84) hX dX7_draftFault_75 (by decide) (fun hc => ?_) (fun hc => ?_)
  · rw [if_neg hc] at h
    refine jw_iconst (v := (0 : Int32)) hX dX7_draftFault_84 (by decide) ?_
    refine jw_istore_n hX [(3, .int (0 : Int32)), (2, .int y71), (0, .ref a), (4, .int v4), (6, .int v6)] dX7_draftFault_85 rfl (by decide) rfl ?_
    refine jw_iload hX dX7_draftFault_86 4 rfl ?_
    refine jw_istore_n hX [(1, .int v6), (3, .int (0 : Int32)), (2, .int y71), (0, .ref a), (4, .int v4), (6, .int v6)] dX7_draftFault_88 rfl (by decide) rfl ?_
    refine jw_iinc (v := (v4 + (1 : Int32))) hX [(4, .int (v4 + (1 : Int32))), (1, .int v6), (3, .int (0 : Int32)), (2, .int y71), (0, .ref a), (6, .int v6)] dX7_draftFault_89 4 rfl (by first | rfl | (congr 1; decide)) (by decide) rfl ?_
    refine jw_goto (tgt := 9) hX dX7_draftFault_92 (by decide) ?_
    refine jw_sub [4, 1, 3, 2, 0] [(0, .ref a), (1, .int v6), (2, .int y71), (3, .int (0 : Int32)), (4, .int (v4 + (1 : Int32)))] rfl ?_
    exact hrec w _ _ _ _ h
  · rw [if_pos hc] at h
    refine jw_iload_n hX dX7_draftFault_78 rfl 2 rfl ?_
    refine jw_iconst (v := (1 : Int32)) hX dX7_draftFault_79 (by decide) ?_
    refine jw_iadd hX dX7_draftFault_80 ?_
    refine jw_goto (tgt := 85) hX dX7_draftFault_81 (by decide) ?_
    refine jw_topi (fun y85 e85 => ?_)
    replace h := bnd_some h y85 e85
    clear e85
    refine jw_istore_n hX [(3, .int y85), (2, .int y71), (0, .ref a), (4, .int v4), (6, .int v6)] dX7_draftFault_85 rfl (by decide) rfl ?_
    refine jw_iload hX dX7_draftFault_86 4 rfl ?_
    refine jw_istore_n hX [(1, .int v6), (3, .int y85), (2, .int y71), (0, .ref a), (4, .int v4), (6, .int v6)] dX7_draftFault_88 rfl (by decide) rfl ?_
    refine jw_iinc (v := (v4 + (1 : Int32))) hX [(4, .int (v4 + (1 : Int32))), (1, .int v6), (3, .int y85), (2, .int y71), (0, .ref a), (6, .int v6)] dX7_draftFault_89 4 rfl (by first | rfl | (congr 1; decide)) (by decide) rfl ?_
    refine jw_goto (tgt := 9) hX dX7_draftFault_92 (by decide) ?_
    refine jw_sub [4, 1, 3, 2, 0] [(0, .ref a), (1, .int v6), (2, .int y71), (3, .int y85), (4, .int (v4 + (1 : Int32)))] rfl ?_
    exact hrec w _ _ _ _ h
set_option maxRecDepth 100000 in
set_option maxHeartbeats 4000000 in
theorem sX7_draftFault_L9 {X : JX} {a : Nat} {ad : Nat → Nat} {cI cZ cO cJ : ClassId} {n : Nat} {w : MW} {post : Option Value → va_W → Prop} (hX : jOK X cX7_draftFault 7 wsX7_draftFault RX7 rmX7_draftFault) (hT : jT X = jTy cI cZ cO cJ) (hGX : jG X jG0) (hret : jRI X cX7_draftFault rmX7_draftFault post) {o : (Int32 ⊕ (Int32 × Int32))} (hex : ∀ (x1 x2 : Int32), o = .inr (x1, x2) → JW X 0 0 (mW a ad cI cZ w) 95 [(0, .ref a), (1, .int x1), (2, .int x2)] []) (hro : ∀ v9 : Int32, o = .inl v9 → post (some (.int v9)) (mW a ad cI cZ w)) : ∀ (k : Nat) (v1 v2 v3 v4 : Int32), fX7_draftFault_L9 n k w v1 v2 v3 v4 = some o → JW X 0 0 (mW a ad cI cZ w) 9 [(0, .ref a), (1, .int v1), (2, .int v2), (3, .int v3), (4, .int v4)] [] := by
  intro k
  induction k with
  | zero => intro v1 v2 v3 v4 h; cases h
  | succ k hrec0 =>
    intro v1 v2 v3 v4 h
    have hrec := fun (_ : MW) => hrec0
    unfold fX7_draftFault_L9 at h
    refine jw_iload hX dX7_draftFault_9 4 rfl ?_
    refine jw_aload_n hX dX7_draftFault_11 rfl 0 rfl ?_
    refine jw_mgetI hX hT inX7_draftFault 1 (by decide) lkX7_draftFault_133 rfl dX7_draftFault_12 ?_
    refine jw_icmp_ge (tgt := 95) hX dX7_draftFault_15 (by decide) (fun hc => ?_) (fun hc => ?_)
    · rw [if_pos hc] at h
      refine jw_sub [0, 1, 2] [(0, .ref a), (1, .int v1), (2, .int v2)] rfl ?_
      exact hex _ _ (Option.some.inj h).symm
    · rw [if_neg hc] at h
      refine jw_aload_n hX dX7_draftFault_18 rfl 0 rfl ?_
      refine jw_mgetA hX hT inX7_draftFault 2 (by decide) lkX7_draftFault_7 rfl dX7_draftFault_19 ?_
      refine jw_iload hX dX7_draftFault_22 4 rfl ?_
      obtain ⟨hb24, h⟩ := chk_some h
      refine jw_miald hX hT 0 2 rfl rfl hb24 dX7_draftFault_24 ?_
      refine jw_topi (fun y25 e25 => ?_)
      replace h := bnd_some h y25 e25
      clear e25
      refine jw_istore hX [(5, .int y25), (0, .ref a), (1, .int v1), (2, .int v2), (3, .int v3), (4, .int v4)] dX7_draftFault_25 (by decide) rfl ?_
      refine jw_iload_n hX dX7_draftFault_27 rfl 2 rfl ?_
      refine jw_iload hX dX7_draftFault_28 0 rfl ?_
      refine jw_iload_n hX dX7_draftFault_30 rfl 4 rfl ?_
      refine jw_iload_n hX dX7_draftFault_31 rfl 3 rfl ?_
      obtain ⟨r32, hc32, h⟩ := bP_some h
      refine jw_cSi (As := [.int v1, .int y25, .int v3, .int v2]) hX jG0_ok hGX 4 (kX7_next hT hc32) gX7_draftFault_X7_next rfl hdX7_next ⟨by decide, by decide⟩ rfl (Nat.le_of_ble_eq_true rfl) dX7_draftFault_32 rfl rfl ⟨by decide, by decide⟩ ?_
      refine jw_istore hX [(6, .int r32), (5, .int y25), (0, .ref a), (1, .int v1), (2, .int v2), (3, .int v3), (4, .int v4)] dX7_draftFault_35 (by decide) rfl ?_
      refine jw_iload hX dX7_draftFault_37 0 rfl ?_
      refine jw_iconst (v := (-1 : Int32)) hX dX7_draftFault_39 (by decide) ?_
      refine jw_icmp_ne (tgt := 46) hX dX7_draftFault_40 (by decide) (fun hc => ?_) (fun hc => ?_)
      · rw [if_neg hc] at h
        refine jw_iload_n hX dX7_draftFault_46 rfl 4 rfl ?_
        refine jw_iload hX dX7_draftFault_47 1 rfl ?_
        refine jw_bipush (v := (40 : Int32)) hX dX7_draftFault_49 (by decide) ?_
        refine jw_icmp_ne (tgt := 58) hX dX7_draftFault_51 (by decide) (fun hc => ?_) (fun hc => ?_)
        · rw [if_neg hc] at h
          refine jw_iload hX dX7_draftFault_58 1 rfl ?_
          refine jw_bipush (v := (41 : Int32)) hX dX7_draftFault_60 (by decide) ?_
          refine jw_icmp_ne (tgt := 69) hX dX7_draftFault_62 (by decide) (fun hc => ?_) (fun hc => ?_)
          · rw [if_neg hc] at h
            refine jw_iconst (v := (0 : Int32)) hX dX7_draftFault_69 (by decide) ?_
            refine jw_sub [2, 5, 6, 0] [(0, .ref a), (3, .int v3), (4, .int v4), (6, .int r32)] rfl ?_
            exact sX7_draftFault_J70 hX hT hGX hret hrec hex hro h
          · rw [if_pos hc] at h
            refine jw_iconst (v := (-1 : Int32)) hX dX7_draftFault_65 (by decide) ?_
            refine jw_goto (tgt := 70) hX dX7_draftFault_66 (by decide) ?_
            refine jw_sub [2, 5, 6, 0] [(0, .ref a), (3, .int v3), (4, .int v4), (6, .int r32)] rfl ?_
            exact sX7_draftFault_J70 hX hT hGX hret hrec hex hro h
        · rw [if_pos hc] at h
          refine jw_iconst (v := (1 : Int32)) hX dX7_draftFault_54 (by decide) ?_
          refine jw_goto (tgt := 70) hX dX7_draftFault_55 (by decide) ?_
          refine jw_sub [2, 5, 6, 0] [(0, .ref a), (3, .int v3), (4, .int v4), (6, .int r32)] rfl ?_
          exact sX7_draftFault_J70 hX hT hGX hret hrec hex hro h
      · rw [if_pos hc] at h
        refine jw_iload hX dX7_draftFault_43 6 rfl ?_
        exact hret _ _ _ _ _ _ (Nat.zero_le _) (Nat.zero_le _) dX7_draftFault_45 (hro _ (Option.some.inj h).symm)
set_option maxRecDepth 100000 in
set_option maxHeartbeats 4000000 in
theorem sX7_draftFault_J121 {X : JX} {a : Nat} {ad : Nat → Nat} {cI cZ cO cJ : ClassId} {n : Nat} {w : MW} {post : Option Value → va_W → Prop} (hX : jOK X cX7_draftFault 7 wsX7_draftFault RX7 rmX7_draftFault) (hT : jT X = jTy cI cZ cO cJ) (hGX : jG X jG0) (hret : jRI X cX7_draftFault rmX7_draftFault post) {o : Int32}   (hro : ∀ v9 : Int32, o = v9 → post (some (.int v9)) (mW a ad cI cZ w)) {v2 t0 : Int32} (h : fX7_draftFault_J121 n w v2 t0 = some o) : JW X 0 0 (mW a ad cI cZ w) 121 [(0, .ref a), (2, .int v2)] [.int t0] := by
  unfold fX7_draftFault_J121 at h
  refine jw_istore hX [(4, .int t0), (0, .ref a), (2, .int v2)] dX7_draftFault_121 (by decide) rfl ?_
  refine jw_iload hX dX7_draftFault_123 0 rfl ?_
  refine jw_if_eq (tgt := 136) hX dX7_draftFault_125 (by decide) (fun hc => ?_) (fun hc => ?_)
  · rw [if_pos hc] at h
    refine jw_aload_n hX dX7_draftFault_136 rfl 1 rfl ?_
    refine jw_mgetI hX hT inX7_draftFault 1 (by decide) lkX7_draftFault_133 rfl dX7_draftFault_137 ?_
    exact hret _ _ _ _ _ _ (Nat.zero_le _) (Nat.zero_le _) dX7_draftFault_140 (hro _ (Option.some.inj h).symm)
  · rw [if_neg hc] at h
    refine jw_iload_n hX dX7_draftFault_128 rfl 2 rfl ?_
    refine jw_if_ne (tgt := 136) hX dX7_draftFault_129 (by decide) (fun hc => ?_) (fun hc => ?_)
    · rw [if_neg hc] at h
      refine jw_aload_n hX dX7_draftFault_136 rfl 1 rfl ?_
      refine jw_mgetI hX hT inX7_draftFault 1 (by decide) lkX7_draftFault_133 rfl dX7_draftFault_137 ?_
      exact hret _ _ _ _ _ _ (Nat.zero_le _) (Nat.zero_le _) dX7_draftFault_140 (hro _ (Option.some.inj h).symm)
    · rw [if_pos hc] at h
      refine jw_iconst (v := (-1 : Int32)) hX dX7_draftFault_132 (by decide) ?_
      refine jw_goto (tgt := 140) hX dX7_draftFault_133 (by decide) ?_
      exact hret _ _ _ _ _ _ (Nat.zero_le _) (Nat.zero_le _) dX7_draftFault_140 (hro _ (Option.some.inj h).symm)
set_option maxRecDepth 100000 in
set_option maxHeartbeats 4000000 in
theorem sX7_draftFault_J116 {X : JX} {a : Nat} {ad : Nat → Nat} {cI cZ cO cJ : ClassId} {n : Nat} {w : MW} {post : Option Value → va_W → Prop} (hX : jOK X cX7_draftFault 7 wsX7_draftFault RX7 rmX7_draftFault) (hT : jT X = jTy cI cZ cO cJ) (hGX : jG X jG0) (hret : jRI X cX7_draftFault rmX7_draftFault post) {o : Int32}   (hro : ∀ v9 : Int32, o = v9 → post (some (.int v9)) (mW a ad cI cZ w)) {v2 : Int32} (h : fX7_draftFault_J116 n w v2 = some o) : JW X 0 0 (mW a ad cI cZ w) 116 [(0, .ref a), (2, .int v2)] [] := by
  unfold fX7_draftFault_J116 at h
  refine jw_iconst (v := (1 : Int32)) hX dX7_draftFault_116 (by decide) ?_
  refine jw_goto (tgt := 121) hX dX7_draftFault_117 (by decide) ?_
  exact sX7_draftFault_J121 hX hT hGX hret hro h
set_option maxRecDepth 100000 in
set_option maxHeartbeats 4000000 in
theorem sX7_draftFault {X : JX} {a : Nat} {ad : Nat → Nat} {cI cZ cO cJ : ClassId} {n : Nat} {w : MW} {post : Option Value → va_W → Prop} (hX : jOK X cX7_draftFault 7 wsX7_draftFault RX7 rmX7_draftFault) (hT : jT X = jTy cI cZ cO cJ) (hGX : jG X jG0) (hret : jRI X cX7_draftFault rmX7_draftFault post) {o : Int32} (hro : ∀ v9 : Int32, o = v9 → post (some (.int v9)) (mW a ad cI cZ w)) (h : fX7_draftFault n w  = some o) : JW X 0 0 (mW a ad cI cZ w) 0 [(0, .ref a)] [] := by
  unfold fX7_draftFault at h
  refine jw_iconst (v := (0 : Int32)) hX dX7_draftFault_0 (by decide) ?_
  refine jw_istore_n hX [(1, .int (0 : Int32)), (0, .ref a)] dX7_draftFault_1 rfl (by decide) rfl ?_
  refine jw_iconst (v := (0 : Int32)) hX dX7_draftFault_2 (by decide) ?_
  refine jw_istore_n hX [(2, .int (0 : Int32)), (1, .int (0 : Int32)), (0, .ref a)] dX7_draftFault_3 rfl (by decide) rfl ?_
  refine jw_iconst (v := (0 : Int32)) hX dX7_draftFault_4 (by decide) ?_
  refine jw_istore_n hX [(3, .int (0 : Int32)), (2, .int (0 : Int32)), (1, .int (0 : Int32)), (0, .ref a)] dX7_draftFault_5 rfl (by decide) rfl ?_
  refine jw_iconst (v := (0 : Int32)) hX dX7_draftFault_6 (by decide) ?_
  refine jw_istore hX [(4, .int (0 : Int32)), (3, .int (0 : Int32)), (2, .int (0 : Int32)), (1, .int (0 : Int32)), (0, .ref a)] dX7_draftFault_7 (by decide) rfl ?_
  refine jw_sub [4, 3, 2, 1, 0] [(0, .ref a), (1, .int (0 : Int32)), (2, .int (0 : Int32)), (3, .int (0 : Int32)), (4, .int (0 : Int32))] rfl ?_
  rcases bS2_some h with ⟨rr, hl9, h⟩ | ⟨x1_9, x2_9, hl9, h⟩
  · refine sX7_draftFault_L9 hX hT hGX hret (o := .inl rr) (fun q0 q1 e9 => nomatch e9) (fun v9 e9 => ?_) n _ _ _ _ hl9
    cases e9
    exact hro _ (Option.some.inj h).symm
  · refine sX7_draftFault_L9 hX hT hGX hret (o := .inr (x1_9, x2_9)) (fun q0 q1 e9 => ?_) (fun v9 e9 => nomatch e9) n _ _ _ _ hl9
    cases e9
    refine jw_iload_n hX dX7_draftFault_95 rfl 1 rfl ?_
    refine jw_iconst (v := (3 : Int32)) hX dX7_draftFault_96 (by decide) ?_
    refine jw_icmp_eq (tgt := 116) hX dX7_draftFault_97 (by decide) (fun hc => ?_) (fun hc => ?_)
    · rw [if_pos hc] at h
      refine jw_sub [0, 2] [(0, .ref a), (2, .int x2_9)] rfl ?_
      exact sX7_draftFault_J116 hX hT hGX hret hro h
    · rw [if_neg hc] at h
      refine jw_iload_n hX dX7_draftFault_100 rfl 1 rfl ?_
      refine jw_iconst (v := (4 : Int32)) hX dX7_draftFault_101 (by decide) ?_
      refine jw_icmp_eq (tgt := 116) hX dX7_draftFault_102 (by decide) (fun hc => ?_) (fun hc => ?_)
      · rw [if_pos hc] at h
        refine jw_sub [0, 2] [(0, .ref a), (2, .int x2_9)] rfl ?_
        exact sX7_draftFault_J116 hX hT hGX hret hro h
      · rw [if_neg hc] at h
        refine jw_iload_n hX dX7_draftFault_105 rfl 1 rfl ?_
        refine jw_iconst (v := (5 : Int32)) hX dX7_draftFault_106 (by decide) ?_
        refine jw_icmp_eq (tgt := 116) hX dX7_draftFault_107 (by decide) (fun hc => ?_) (fun hc => ?_)
        · rw [if_pos hc] at h
          refine jw_sub [0, 2] [(0, .ref a), (2, .int x2_9)] rfl ?_
          exact sX7_draftFault_J116 hX hT hGX hret hro h
        · rw [if_neg hc] at h
          refine jw_iload_n hX dX7_draftFault_110 rfl 1 rfl ?_
          refine jw_bipush (v := (7 : Int32)) hX dX7_draftFault_111 (by decide) ?_
          refine jw_icmp_ne (tgt := 120) hX dX7_draftFault_113 (by decide) (fun hc => ?_) (fun hc => ?_)
          · rw [if_neg hc] at h
            refine jw_iconst (v := (0 : Int32)) hX dX7_draftFault_120 (by decide) ?_
            refine jw_sub [0, 2] [(0, .ref a), (2, .int x2_9)] rfl ?_
            exact sX7_draftFault_J121 hX hT hGX hret hro h
          · rw [if_pos hc] at h
            refine jw_sub [0, 2] [(0, .ref a), (2, .int x2_9)] rfl ?_
            exact sX7_draftFault_J116 hX hT hGX hret hro h
set_option maxRecDepth 100000 in
set_option maxHeartbeats 4000000 in
theorem kX7_draftFault {l : Launch} {D : va_G} {tys : List (ClassId × FieldType)} {a : Nat} {ad : Nat → Nat} {cI cZ cO cJ : ClassId} {n : Nat} {w : MW}  {r : Int32} (hT : tys = jTy cI cZ cO cJ) (h : fX7_draftFault n w  = some r) : CC l jG0 D tys yX7_draftFault wsX7_draftFault rmX7_draftFault [.ref a] (mW a ad cI cZ w) (fun ov w2 => ov = some (.int r) ∧ w2 = (mW a ad cI cZ w)) := by
  refine CC_of (cc := cX7_draftFault) (maxL := 7) (ret := (some .int)) (by decide) rfl (Nat.le_of_ble_eq_true rfl) ?_
  intro X hD hL hT0 hGX hX rI rZ rV rA
  exact sX7_draftFault (post := fun ov w2 => ov = some (.int r) ∧ w2 = (mW a ad cI cZ w)) hX (hT0.trans hT) hGX (fun cells slots w9 pc lv v => rI cells slots w9 pc lv v rfl) (o := r) (fun v9 e9 => by cases e9; exact ⟨rfl, rfl⟩) h
