/-! X7_readsDraft -/
abbrev rmX7_readsDraft : Room := { frames := 3, cells := 0, slots := 0, locals := 74 }
theorem hdX7_readsDraft : yX7_readsDraft.cls = RX7 ∧ yX7_readsDraft.cls ≠ "java/lang/invoke/MethodHandle" ∧ yX7_readsDraft.cls ≠ "java/lang/invoke/VarHandle" ∧ (parseMethodDescriptor yX7_readsDraft.desc).map (fun d => d.parameters.length) = some 0 := by decide +kernel
theorem inX7_readsDraft : ∀ w ∈ wsX70, w ∈ wsX7_readsDraft := fun _ h => List.mem_cons_of_mem _ (List.mem_append_right _ h)
theorem lkX7_readsDraft_107 : Cond.fieldLink RX7 107 "PostlintModel" (TX7 41).2.1 (TX7 41).2.2.1 ∈ wsX7_readsDraft := by decide +kernel
theorem lkX7_readsDraft_110 : Cond.fieldLink RX7 110 "PostlintModel" (TX7 42).2.1 (TX7 42).2.2.1 ∈ wsX7_readsDraft := by decide +kernel
theorem lkX7_readsDraft_113 : Cond.fieldLink RX7 113 "PostlintModel" (TX7 43).2.1 (TX7 43).2.2.1 ∈ wsX7_readsDraft := by decide +kernel
theorem lkX7_readsDraft_116 : Cond.fieldLink RX7 116 "PostlintModel" (TX7 44).2.1 (TX7 44).2.2.1 ∈ wsX7_readsDraft := by decide +kernel
theorem lkX7_readsDraft_119 : Cond.fieldLink RX7 119 "PostlintModel" (TX7 46).2.1 (TX7 46).2.2.1 ∈ wsX7_readsDraft := by decide +kernel
theorem lkX7_readsDraft_133 : Cond.fieldLink RX7 133 "PostlintModel" (TX7 1).2.1 (TX7 1).2.2.1 ∈ wsX7_readsDraft := by decide +kernel
theorem lkX7_readsDraft_140 : Cond.fieldLink RX7 140 "PostlintModel" (TX7 40).2.1 (TX7 40).2.2.1 ∈ wsX7_readsDraft := by decide +kernel
theorem lkX7_readsDraft_147 : Cond.fieldLink RX7 147 "PostlintModel" (TX7 31).2.1 (TX7 31).2.2.1 ∈ wsX7_readsDraft := by decide +kernel
theorem lkX7_readsDraft_150 : Cond.fieldLink RX7 150 "PostlintModel" (TX7 38).2.1 (TX7 38).2.2.1 ∈ wsX7_readsDraft := by decide +kernel
theorem lkX7_readsDraft_167 : Cond.fieldLink RX7 167 "PostlintModel" (TX7 26).2.1 (TX7 26).2.2.1 ∈ wsX7_readsDraft := by decide +kernel
theorem lkX7_readsDraft_176 : Cond.fieldLink RX7 176 "PostlintModel" (TX7 45).2.1 (TX7 45).2.2.1 ∈ wsX7_readsDraft := by decide +kernel
theorem lkX7_readsDraft_7 : Cond.fieldLink RX7 7 "PostlintModel" (TX7 2).2.1 (TX7 2).2.2.1 ∈ wsX7_readsDraft := by decide +kernel
theorem lkX7_readsDraft_83 : Cond.fieldLink RX7 83 "PostlintModel" (TX7 30).2.1 (TX7 30).2.2.1 ∈ wsX7_readsDraft := by decide +kernel
theorem lkX7_readsDraft_92 : Cond.fieldLink RX7 92 "PostlintModel" (TX7 34).2.1 (TX7 34).2.2.1 ∈ wsX7_readsDraft := by decide +kernel
theorem lkX7_readsDraft_95 : Cond.fieldLink RX7 95 "PostlintModel" (TX7 35).2.1 (TX7 35).2.2.1 ∈ wsX7_readsDraft := by decide +kernel
def fX7_readsDraft_L129 (n : Nat) : Nat → MW → Int32 → Int32 → Int32 → Int32 → Option (Int32 × Int32 × Int32 × MW)
  | 0, _, _, _, _, _ => none
  | k + 1, w, v1, v2, v4, v5 => (if (w.1 26) ≤ v5 then some (v1, v2, v4, w) else chk (inB v5 (mLen 30)) (chk (inB v5 (mLen 30)) (bnd (mA w 30 (v5).toNatClampNeg ((w.2 30 (v5).toNatClampNeg) * v4)) (fun w149 => fX7_readsDraft_L129 n k w149 v1 v2 v4 ((v5 + (1 : Int32)))))))
def fX7_readsDraft_J119 (n : Nat) (rec : MW → Int32 → Int32 → Option (MW)) (w : MW) (v1 v2 t0 : Int32) : Option (MW) := chk (inB v1 (mLen 44)) (bnd ((w.2 44 (v1).toNatClampNeg)) (fun y127 => bL4 (fX7_readsDraft_L129 n n w v1 v2 t0 y127) (fun x1_129 x2_129 x4_129 wx129 => bP (fX7_closes n wx129 x1_129 x4_129) (fun w160 => rec w160 ((x1_129 + (-1 : Int32))) ((x2_129 + (1 : Int32)))))))
def fX7_readsDraft_J118 (n : Nat) (rec : MW → Int32 → Int32 → Option (MW)) (w : MW) (v1 v2 : Int32) : Option (MW) := fX7_readsDraft_J119 n (rec) w v1 v2 (1 : Int32)
def fX7_readsDraft_L31 (n : Nat) : Nat → MW → Int32 → Int32 → Option (MW)
  | 0, _, _, _ => none
  | k + 1, w, v1, v2 => (if (w.1 1) ≤ v2 then some (w) else chk (inB v2 (mLen 2)) (bnd ((w.2 2 (v2).toNatClampNeg)) (fun y45 => (if ¬ y45 = (40 : Int32) then (if ¬ y45 = (41 : Int32) then bP (fX7_isIn y45 (97 : Int32) (104 : Int32)) (fun r174 => (if r174 = 0 then fX7_readsDraft_L31 n k w v1 ((v2 + (1 : Int32))) else bP (fX7_readsPosting n w v2 v1) (fun w183 => fX7_readsDraft_L31 n k w183 v1 ((v2 + (1 : Int32)))))) else (if (w.1 1) ≤ (v2 + (1 : Int32)) then fX7_readsDraft_J118 n (fX7_readsDraft_L31 n k) w v1 v2 else chk (inB (v2 + (1 : Int32)) (mLen 2)) ((if ¬ (w.2 2 ((v2 + (1 : Int32))).toNatClampNeg) = (120 : Int32) then fX7_readsDraft_J118 n (fX7_readsDraft_L31 n k) w v1 v2 else chk (inB (v2 + (2 : Int32)) (mLen 2)) (fX7_readsDraft_J119 n (fX7_readsDraft_L31 n k) w v1 v2 ((w.2 2 ((v2 + (2 : Int32))).toNatClampNeg) - (48 : Int32))))))) else chk (inB (v1 + (1 : Int32)) (mLen 42)) (bnd (mA w 42 ((v1 + (1 : Int32))).toNatClampNeg (0 : Int32)) (fun w61 => chk (inB (v1 + (1 : Int32)) (mLen 44)) (bnd (mA w61 44 ((v1 + (1 : Int32))).toNatClampNeg (w61.1 26)) (fun w71 => fX7_readsDraft_L31 n k w71 ((v1 + (1 : Int32))) ((v2 + (1 : Int32)))))))))))
def fX7_readsDraft_L244 (n : Nat) : Nat → MW → Int32 → Int32 → Int32 → Option (Int32 × MW)
  | 0, _, _, _, _ => none
  | k + 1, w, v2, v3, v4 => chk (inB v3 (mLen 35)) ((if (w.2 35 (v3).toNatClampNeg) ≤ v4 then some (v2, w) else chk (inB v3 (mLen 34)) (chk (inB ((w.2 34 (v3).toNatClampNeg) + v4) (mLen 41)) (chk (inB (w.1 45) (mLen 46)) (bnd (mA w 46 ((w.1 45)).toNatClampNeg (w.2 41 (((w.2 34 (v3).toNatClampNeg) + v4)).toNatClampNeg)) (fun w277 => bnd (mS w277 45 ((w277.1 45) + (1 : Int32))) (fun w285 => fX7_readsDraft_L244 n k w285 v2 v3 ((v4 + (1 : Int32))))))))))
def fX7_readsDraft_J241 (n : Nat) (rec : MW → Int32 → Option (MW)) (w : MW) (v2 v3 : Int32) : Option (MW) := bL2 (fX7_readsDraft_L244 n n w v2 v3 (0 : Int32)) (fun x2_244 wx244 => rec wx244 ((x2_244 + (1 : Int32))))
def fX7_readsDraft_L199 (n : Nat) : Nat → MW → Int32 → Option (MW)
  | 0, _, _ => none
  | k + 1, w, v2 => chk (inB (0 : Int32) (mLen 42)) ((if (w.2 42 ((0 : Int32)).toNatClampNeg) ≤ v2 then some (w) else chk (inB v2 (mLen 43)) (bnd ((w.2 43 (v2).toNatClampNeg)) (fun y215 => (if v2 ≤ 0 then fX7_readsDraft_J241 n (fX7_readsDraft_L199 n k) w v2 y215 else chk (inB (w.1 45) (mLen 46)) (bnd (mA w 46 ((w.1 45)).toNatClampNeg (32 : Int32)) (fun w230 => bnd (mS w230 45 ((w230.1 45) + (1 : Int32))) (fun w238 => fX7_readsDraft_J241 n (fX7_readsDraft_L199 n k) w238 v2 y215))))))))
def fX7_readsDraft (n : Nat) (w : MW) : Option MW := bnd (mS w 26 (0 : Int32)) (fun w2 => bnd (mS w2 31 (0 : Int32)) (fun w7 => bnd (mS w7 38 (0 : Int32)) (fun w12 => bnd (mS w12 40 (0 : Int32)) (fun w17 => chk (inB (0 : Int32) (mLen 42)) (bnd (mA w17 42 ((0 : Int32)).toNatClampNeg (0 : Int32)) (fun w28 => bL1 (fX7_readsDraft_L31 n n w28 (0 : Int32) (0 : Int32)) (fun wx31 => bnd (mS wx31 45 (0 : Int32)) (fun w194 => bL1 (fX7_readsDraft_L199 n n w194 (0 : Int32)) (fun wx199 => some wx199)))))))))
set_option maxRecDepth 100000 in
set_option maxHeartbeats 4000000 in
theorem sX7_readsDraft_L129 {X : JX} {a : Nat} {ad : Nat → Nat} {cI cZ cO cJ : ClassId} {n : Nat} {post : Option Value → va_W → Prop} (hX : jOK X cX7_readsDraft 6 wsX7_readsDraft RX7 rmX7_readsDraft) (hT : jT X = jTy cI cZ cO cJ) (hGX : jG X jG0) (hret : jRV X cX7_readsDraft rmX7_readsDraft post) {o : (Int32 × Int32 × Int32 × MW)} (hex : ∀ (x1 x2 x4 : Int32) (w9 : MW), o = (x1, x2, x4, w9) → JW X 0 0 (mW a ad cI cZ w9) 156 [(0, .ref a), (1, .int x1), (2, .int x2), (4, .int x4)] [])  : ∀ (k : Nat) (w : MW) (v1 v2 v4 v5 : Int32), fX7_readsDraft_L129 n k w v1 v2 v4 v5 = some o → JW X 0 0 (mW a ad cI cZ w) 129 [(0, .ref a), (1, .int v1), (2, .int v2), (4, .int v4), (5, .int v5)] [] := by
  intro k
  induction k with
  | zero => intro w v1 v2 v4 v5 h; cases h
  | succ k hrec0 =>
    intro w v1 v2 v4 v5 h
    have hrec := hrec0
    unfold fX7_readsDraft_L129 at h
    refine jw_iload hX dX7_readsDraft_129 4 rfl ?_
    refine jw_aload_n hX dX7_readsDraft_131 rfl 0 rfl ?_
    refine jw_mgetI hX hT inX7_readsDraft 26 (by decide) lkX7_readsDraft_167 rfl dX7_readsDraft_132 ?_
    refine jw_icmp_ge (tgt := 156) hX dX7_readsDraft_135 (by decide) (fun hc => ?_) (fun hc => ?_)
    · rw [if_pos hc] at h
      refine jw_sub [0, 1, 2, 3] [(0, .ref a), (1, .int v1), (2, .int v2), (4, .int v4)] rfl ?_
      exact hex _ _ _ _ (Option.some.inj h).symm
    · rw [if_neg hc] at h
      refine jw_aload_n hX dX7_readsDraft_138 rfl 0 rfl ?_
      refine jw_mgetA hX hT inX7_readsDraft 30 (by decide) lkX7_readsDraft_83 rfl dX7_readsDraft_139 ?_
      refine jw_iload hX dX7_readsDraft_142 4 rfl ?_
      refine jw_dup2 hX dX7_readsDraft_144 rfl rfl ?_
      obtain ⟨hb145, h⟩ := chk_some h
      refine jw_miald hX hT 24 30 rfl rfl hb145 dX7_readsDraft_145 ?_
      refine jw_iload hX dX7_readsDraft_146 3 rfl ?_
      refine jw_imul hX dX7_readsDraft_148 ?_
      obtain ⟨hb149, h⟩ := chk_some h
      refine jw_miast hX hT 24 30 rfl rfl hb149 dX7_readsDraft_149 (fun w149 e149 => ?_)
      replace h := bnd_some h w149 e149
      clear e149
      refine jw_iinc (v := (v5 + (1 : Int32))) hX [(5, .int (v5 + (1 : Int32))), (0, .ref a), (1, .int v1), (2, .int v2), (4, .int v4)] dX7_readsDraft_150 4 rfl (by first | rfl | (congr 1; decide)) (by decide) rfl ?_
      refine jw_goto (tgt := 129) hX dX7_readsDraft_153 (by decide) ?_
      refine jw_sub [1, 2, 3, 4, 0] [(0, .ref a), (1, .int v1), (2, .int v2), (4, .int v4), (5, .int (v5 + (1 : Int32)))] rfl ?_
      exact hrec _ _ _ _ _ h
set_option maxRecDepth 100000 in
set_option maxHeartbeats 4000000 in
theorem sX7_readsDraft_J119 {X : JX} {a : Nat} {ad : Nat → Nat} {cI cZ cO cJ : ClassId} {n : Nat} {post : Option Value → va_W → Prop} (hX : jOK X cX7_readsDraft 6 wsX7_readsDraft RX7 rmX7_readsDraft) (hT : jT X = jTy cI cZ cO cJ) (hGX : jG X jG0) (hret : jRV X cX7_readsDraft rmX7_readsDraft post) {o : (MW)} {rec : MW → Int32 → Int32 → Option (MW)} (hrec : ∀ (w : MW) (v1 v2 : Int32), rec w v1 v2 = some o → JW X 0 0 (mW a ad cI cZ w) 31 [(0, .ref a), (1, .int v1), (2, .int v2)] [])  (hex : ∀ (w9 : MW), o = w9 → JW X 0 0 (mW a ad cI cZ w9) 192 [(0, .ref a)] [])  {w : MW} {v1 v2 t0 : Int32} (h : fX7_readsDraft_J119 n rec w v1 v2 t0 = some o) : JW X 0 0 (mW a ad cI cZ w) 119 [(0, .ref a), (1, .int v1), (2, .int v2)] [.int t0] := by
  unfold fX7_readsDraft_J119 at h
  refine jw_istore hX [(4, .int t0), (0, .ref a), (1, .int v1), (2, .int v2)] dX7_readsDraft_119 (by decide) rfl ?_
  refine jw_aload_n hX dX7_readsDraft_121 rfl 1 rfl ?_
  refine jw_mgetA hX hT inX7_readsDraft 44 (by decide) lkX7_readsDraft_116 rfl dX7_readsDraft_122 ?_
  refine jw_iload_n hX dX7_readsDraft_125 rfl 2 rfl ?_
  obtain ⟨hb126, h⟩ := chk_some h
  refine jw_miald hX hT 35 44 rfl rfl hb126 dX7_readsDraft_126 ?_
  refine jw_topi (fun y127 e127 => ?_)
  replace h := bnd_some h y127 e127
  clear e127
  refine jw_istore hX [(5, .int y127), (4, .int t0), (0, .ref a), (1, .int v1), (2, .int v2)] dX7_readsDraft_127 (by decide) rfl ?_
  refine jw_sub [2, 3, 4, 1, 0] [(0, .ref a), (1, .int v1), (2, .int v2), (4, .int t0), (5, .int y127)] rfl ?_
  obtain ⟨x1_129, x2_129, x4_129, wx129, hl129, h⟩ := bL4_some h
  refine sX7_readsDraft_L129 hX hT hGX hret (o := (x1_129, x2_129, x4_129, wx129)) (fun q0 q1 q2 q3 e9 => ?_) n _ _ _ _ _ hl129
  cases e9
  refine jw_aload_n hX dX7_readsDraft_156 rfl 0 rfl ?_
  refine jw_iload_n hX dX7_readsDraft_157 rfl 1 rfl ?_
  refine jw_iload hX dX7_readsDraft_158 3 rfl ?_
  obtain ⟨w160, hc160, h⟩ := bP_some h
  refine jw_cVv (As := [.int x1_129, .int x4_129]) hX jG0_ok hGX 2 (kX7_closes hT hc160) gX7_readsDraft_X7_closes rfl hdX7_closes ⟨by decide, by decide⟩ 0 7 rfl rfl rfl (by decide) dX7_readsDraft_160 rfl rfl ⟨by decide, by decide⟩ ?_
  refine jw_iinc (v := (x1_129 + (-1 : Int32))) hX [(1, .int (x1_129 + (-1 : Int32))), (0, .ref a), (2, .int x2_129), (4, .int x4_129)] dX7_readsDraft_163 1 rfl (by first | rfl | (congr 1; decide)) (by decide) rfl ?_
  refine jw_goto (tgt := 186) hX dX7_readsDraft_166 (by decide) ?_
  refine jw_iinc (v := (x2_129 + (1 : Int32))) hX [(2, .int (x2_129 + (1 : Int32))), (1, .int (x1_129 + (-1 : Int32))), (0, .ref a), (4, .int x4_129)] dX7_readsDraft_186 2 rfl (by first | rfl | (congr 1; decide)) (by decide) rfl ?_
  refine jw_goto (tgt := 31) hX dX7_readsDraft_189 (by decide) ?_
  refine jw_sub [2, 1, 0] [(0, .ref a), (1, .int (x1_129 + (-1 : Int32))), (2, .int (x2_129 + (1 : Int32)))] rfl ?_
  exact hrec _ _ _ h
set_option maxRecDepth 100000 in
set_option maxHeartbeats 4000000 in
theorem sX7_readsDraft_J118 {X : JX} {a : Nat} {ad : Nat → Nat} {cI cZ cO cJ : ClassId} {n : Nat} {post : Option Value → va_W → Prop} (hX : jOK X cX7_readsDraft 6 wsX7_readsDraft RX7 rmX7_readsDraft) (hT : jT X = jTy cI cZ cO cJ) (hGX : jG X jG0) (hret : jRV X cX7_readsDraft rmX7_readsDraft post) {o : (MW)} {rec : MW → Int32 → Int32 → Option (MW)} (hrec : ∀ (w : MW) (v1 v2 : Int32), rec w v1 v2 = some o → JW X 0 0 (mW a ad cI cZ w) 31 [(0, .ref a), (1, .int v1), (2, .int v2)] [])  (hex : ∀ (w9 : MW), o = w9 → JW X 0 0 (mW a ad cI cZ w9) 192 [(0, .ref a)] [])  {w : MW} {v1 v2 : Int32} (h : fX7_readsDraft_J118 n rec w v1 v2 = some o) : JW X 0 0 (mW a ad cI cZ w) 118 [(0, .ref a), (1, .int v1), (2, .int v2)] [] := by
  unfold fX7_readsDraft_J118 at h
  refine jw_iconst (v := (1 : Int32)) hX dX7_readsDraft_118 (by decide) ?_
  exact sX7_readsDraft_J119 hX hT hGX hret hrec hex h
set_option maxRecDepth 100000 in
set_option maxHeartbeats 4000000 in
theorem sX7_readsDraft_L31 {X : JX} {a : Nat} {ad : Nat → Nat} {cI cZ cO cJ : ClassId} {n : Nat} {post : Option Value → va_W → Prop} (hX : jOK X cX7_readsDraft 6 wsX7_readsDraft RX7 rmX7_readsDraft) (hT : jT X = jTy cI cZ cO cJ) (hGX : jG X jG0) (hret : jRV X cX7_readsDraft rmX7_readsDraft post) {o : (MW)} (hex : ∀ (w9 : MW), o = w9 → JW X 0 0 (mW a ad cI cZ w9) 192 [(0, .ref a)] [])  : ∀ (k : Nat) (w : MW) (v1 v2 : Int32), fX7_readsDraft_L31 n k w v1 v2 = some o → JW X 0 0 (mW a ad cI cZ w) 31 [(0, .ref a), (1, .int v1), (2, .int v2)] [] := by
  intro k
  induction k with
  | zero => intro w v1 v2 h; cases h
  | succ k hrec0 =>
    intro w v1 v2 h
    have hrec := hrec0
    unfold fX7_readsDraft_L31 at h
    refine jw_iload_n hX dX7_readsDraft_31 rfl 2 rfl ?_
    refine jw_aload_n hX dX7_readsDraft_32 rfl 0 rfl ?_
    refine jw_mgetI hX hT inX7_readsDraft 1 (by decide) lkX7_readsDraft_133 rfl dX7_readsDraft_33 ?_
    refine jw_icmp_ge (tgt := 192) hX dX7_readsDraft_36 (by decide) (fun hc => ?_) (fun hc => ?_)
    · rw [if_pos hc] at h
      refine jw_sub [0] [(0, .ref a)] rfl ?_
      exact hex _ (Option.some.inj h).symm
    · rw [if_neg hc] at h
      refine jw_aload_n hX dX7_readsDraft_39 rfl 0 rfl ?_
      refine jw_mgetA hX hT inX7_readsDraft 2 (by decide) lkX7_readsDraft_7 rfl dX7_readsDraft_40 ?_
      refine jw_iload_n hX dX7_readsDraft_43 rfl 2 rfl ?_
      obtain ⟨hb44, h⟩ := chk_some h
      refine jw_miald hX hT 0 2 rfl rfl hb44 dX7_readsDraft_44 ?_
      refine jw_topi (fun y45 e45 => ?_)
      replace h := bnd_some h y45 e45
      clear e45
      refine jw_istore_n hX [(3, .int y45), (0, .ref a), (1, .int v1), (2, .int v2)] dX7_readsDraft_45 rfl (by decide) rfl ?_
      refine jw_iload_n hX dX7_readsDraft_46 rfl 0 rfl ?_
      refine jw_bipush (v := (40 : Int32)) hX dX7_readsDraft_47 (by decide) ?_
      refine jw_icmp_ne (tgt := 75) hX dX7_readsDraft_49 (by decide) (fun hc => ?_) (fun hc => ?_)
      · rw [if_pos hc] at h
        refine jw_iload_n hX dX7_readsDraft_75 rfl 0 rfl ?_
        refine jw_bipush (v := (41 : Int32)) hX dX7_readsDraft_76 (by decide) ?_
        refine jw_icmp_ne (tgt := 169) hX dX7_readsDraft_78 (by decide) (fun hc => ?_) (fun hc => ?_)
        · rw [if_pos hc] at h
          refine jw_iload_n hX dX7_readsDraft_169 rfl 0 rfl ?_
          refine jw_bipush (v := (97 : Int32)) hX dX7_readsDraft_170 (by decide) ?_
          refine jw_bipush (v := (104 : Int32)) hX dX7_readsDraft_172 (by decide) ?_
          obtain ⟨r174, hc174, h⟩ := bP_some h
          refine jw_cSi (As := [.int y45, .int (97 : Int32), .int (104 : Int32)]) hX jG0_ok hGX 3 (kX7_isIn hT hc174) gX7_readsDraft_X7_isIn rfl hdX7_isIn ⟨by decide, by decide⟩ rfl (by decide) dX7_readsDraft_174 rfl rfl ⟨by decide, by decide⟩ ?_
          refine jw_if_eq (tgt := 186) hX dX7_readsDraft_177 (by decide) (fun hc => ?_) (fun hc => ?_)
          · rw [if_pos hc] at h
            refine jw_iinc (v := (v2 + (1 : Int32))) hX [(2, .int (v2 + (1 : Int32))), (3, .int y45), (0, .ref a), (1, .int v1)] dX7_readsDraft_186 3 rfl (by first | rfl | (congr 1; decide)) (by decide) rfl ?_
            refine jw_goto (tgt := 31) hX dX7_readsDraft_189 (by decide) ?_
            refine jw_sub [2, 3, 0] [(0, .ref a), (1, .int v1), (2, .int (v2 + (1 : Int32)))] rfl ?_
            exact hrec _ _ _ h
          · rw [if_neg hc] at h
            refine jw_aload_n hX dX7_readsDraft_180 rfl 1 rfl ?_
            refine jw_iload_n hX dX7_readsDraft_181 rfl 3 rfl ?_
            refine jw_iload_n hX dX7_readsDraft_182 rfl 2 rfl ?_
            obtain ⟨w183, hc183, h⟩ := bP_some h
            refine jw_cVv (As := [.int v2, .int v1]) hX jG0_ok hGX 2 (kX7_readsPosting hT hc183) gX7_readsDraft_X7_readsPosting rfl hdX7_readsPosting ⟨by decide, by decide⟩ 0 7 rfl rfl rfl (by decide) dX7_readsDraft_183 rfl rfl ⟨by decide, by decide⟩ ?_
            refine jw_iinc (v := (v2 + (1 : Int32))) hX [(2, .int (v2 + (1 : Int32))), (3, .int y45), (0, .ref a), (1, .int v1)] dX7_readsDraft_186 3 rfl (by first | rfl | (congr 1; decide)) (by decide) rfl ?_
            refine jw_goto (tgt := 31) hX dX7_readsDraft_189 (by decide) ?_
            refine jw_sub [2, 3, 0] [(0, .ref a), (1, .int v1), (2, .int (v2 + (1 : Int32)))] rfl ?_
            exact hrec _ _ _ h
        · rw [if_neg hc] at h
          refine jw_iload_n hX dX7_readsDraft_81 rfl 3 rfl ?_
          refine jw_iconst (v := (1 : Int32)) hX dX7_readsDraft_82 (by decide) ?_
          refine jw_iadd hX dX7_readsDraft_83 ?_
          refine jw_aload_n hX dX7_readsDraft_84 rfl 1 rfl ?_
          refine jw_mgetI hX hT inX7_readsDraft 1 (by decide) lkX7_readsDraft_133 rfl dX7_readsDraft_85 ?_
          refine jw_icmp_ge (tgt := 118) hX dX7_readsDraft_88 (by decide) (fun hc => ?_) (fun hc => ?_)
          · rw [if_pos hc] at h
            refine jw_sub [1, 2, 3] [(0, .ref a), (1, .int v1), (2, .int v2)] rfl ?_
            exact sX7_readsDraft_J118 hX hT hGX hret hrec hex h
          · rw [if_neg hc] at h
            refine jw_aload_n hX dX7_readsDraft_91 rfl 1 rfl ?_
            refine jw_mgetA hX hT inX7_readsDraft 2 (by decide) lkX7_readsDraft_7 rfl dX7_readsDraft_92 ?_
            refine jw_iload_n hX dX7_readsDraft_95 rfl 3 rfl ?_
            refine jw_iconst (v := (1 : Int32)) hX dX7_readsDraft_96 (by decide) ?_
            refine jw_iadd hX dX7_readsDraft_97 ?_
            obtain ⟨hb98, h⟩ := chk_some h
            refine jw_miald hX hT 0 2 rfl rfl hb98 dX7_readsDraft_98 ?_
            refine jw_bipush (v := (120 : Int32)) hX dX7_readsDraft_99 (by decide) ?_
            refine jw_icmp_ne (tgt := 118) hX dX7_readsDraft_101 (by decide) (fun hc => ?_) (fun hc => ?_)
            · rw [if_pos hc] at h
              refine jw_sub [1, 2, 3] [(0, .ref a), (1, .int v1), (2, .int v2)] rfl ?_
              exact sX7_readsDraft_J118 hX hT hGX hret hrec hex h
            · rw [if_neg hc] at h
              refine jw_aload_n hX dX7_readsDraft_104 rfl 1 rfl ?_
              refine jw_mgetA hX hT inX7_readsDraft 2 (by decide) lkX7_readsDraft_7 rfl dX7_readsDraft_105 ?_
              refine jw_iload_n hX dX7_readsDraft_108 rfl 3 rfl ?_
              refine jw_iconst (v := (2 : Int32)) hX dX7_readsDraft_109 (by decide) ?_
              refine jw_iadd hX dX7_readsDraft_110 ?_
              obtain ⟨hb111, h⟩ := chk_some h
              refine jw_miald hX hT 0 2 rfl rfl hb111 dX7_readsDraft_111 ?_
              refine jw_bipush (v := (48 : Int32)) hX dX7_readsDraft_112 (by decide) ?_
              refine jw_isub hX dX7_readsDraft_114 ?_
              refine jw_goto (tgt := 119) hX dX7_readsDraft_115 (by decide) ?_
              refine jw_sub [1, 2, 3] [(0, .ref a), (1, .int v1), (2, .int v2)] rfl ?_
              exact sX7_readsDraft_J119 hX hT hGX hret hrec hex h
      · rw [if_neg hc] at h
        refine jw_iinc (v := (v1 + (1 : Int32))) hX [(1, .int (v1 + (1 : Int32))), (3, .int y45), (0, .ref a), (2, .int v2)] dX7_readsDraft_52 2 rfl (by first | rfl | (congr 1; decide)) (by decide) rfl ?_
        refine jw_aload_n hX dX7_readsDraft_55 rfl 2 rfl ?_
        refine jw_mgetA hX hT inX7_readsDraft 42 (by decide) lkX7_readsDraft_110 rfl dX7_readsDraft_56 ?_
        refine jw_iload_n hX dX7_readsDraft_59 rfl 0 rfl ?_
        refine jw_iconst (v := (0 : Int32)) hX dX7_readsDraft_60 (by decide) ?_
        obtain ⟨hb61, h⟩ := chk_some h
        refine jw_miast hX hT 33 42 rfl rfl hb61 dX7_readsDraft_61 (fun w61 e61 => ?_)
        replace h := bnd_some h w61 e61
        clear e61
        refine jw_aload_n hX dX7_readsDraft_62 rfl 2 rfl ?_
        refine jw_mgetA hX hT inX7_readsDraft 44 (by decide) lkX7_readsDraft_116 rfl dX7_readsDraft_63 ?_
        refine jw_iload_n hX dX7_readsDraft_66 rfl 0 rfl ?_
        refine jw_aload_n hX dX7_readsDraft_67 rfl 2 rfl ?_
        refine jw_mgetI hX hT inX7_readsDraft 26 (by decide) lkX7_readsDraft_167 rfl dX7_readsDraft_68 ?_
        obtain ⟨hb71, h⟩ := chk_some h
        refine jw_miast hX hT 35 44 rfl rfl hb71 dX7_readsDraft_71 (fun w71 e71 => ?_)
        replace h := bnd_some h w71 e71
        clear e71
        refine jw_goto (tgt := 186) hX dX7_readsDraft_72 (by decide) ?_
        refine jw_iinc (v := (v2 + (1 : Int32))) hX [(2, .int (v2 + (1 : Int32))), (1, .int (v1 + (1 : Int32))), (3, .int y45), (0, .ref a)] dX7_readsDraft_186 3 rfl (by first | rfl | (congr 1; decide)) (by decide) rfl ?_
        refine jw_goto (tgt := 31) hX dX7_readsDraft_189 (by decide) ?_
        refine jw_sub [3, 1, 0] [(0, .ref a), (1, .int (v1 + (1 : Int32))), (2, .int (v2 + (1 : Int32)))] rfl ?_
        exact hrec _ _ _ h
set_option maxRecDepth 100000 in
set_option maxHeartbeats 4000000 in
theorem sX7_readsDraft_L244 {X : JX} {a : Nat} {ad : Nat → Nat} {cI cZ cO cJ : ClassId} {n : Nat} {post : Option Value → va_W → Prop} (hX : jOK X cX7_readsDraft 6 wsX7_readsDraft RX7 rmX7_readsDraft) (hT : jT X = jTy cI cZ cO cJ) (hGX : jG X jG0) (hret : jRV X cX7_readsDraft rmX7_readsDraft post) {o : (Int32 × MW)} (hex : ∀ (x2 : Int32) (w9 : MW), o = (x2, w9) → JW X 0 0 (mW a ad cI cZ w9) 294 [(0, .ref a), (2, .int x2)] [])  : ∀ (k : Nat) (w : MW) (v2 v3 v4 : Int32), fX7_readsDraft_L244 n k w v2 v3 v4 = some o → JW X 0 0 (mW a ad cI cZ w) 244 [(0, .ref a), (2, .int v2), (3, .int v3), (4, .int v4)] [] := by
  intro k
  induction k with
  | zero => intro w v2 v3 v4 h; cases h
  | succ k hrec0 =>
    intro w v2 v3 v4 h
    have hrec := hrec0
    unfold fX7_readsDraft_L244 at h
    refine jw_iload hX dX7_readsDraft_244 3 rfl ?_
    refine jw_aload_n hX dX7_readsDraft_246 rfl 0 rfl ?_
    refine jw_mgetA hX hT inX7_readsDraft 35 (by decide) lkX7_readsDraft_95 rfl dX7_readsDraft_247 ?_
    refine jw_iload_n hX dX7_readsDraft_250 rfl 2 rfl ?_
    obtain ⟨hb251, h⟩ := chk_some h
    refine jw_miald hX hT 28 35 rfl rfl hb251 dX7_readsDraft_251 ?_
    refine jw_icmp_ge (tgt := 294) hX dX7_readsDraft_252 (by decide) (fun hc => ?_) (fun hc => ?_)
    · rw [if_pos hc] at h
      refine jw_sub [0, 1] [(0, .ref a), (2, .int v2)] rfl ?_
      exact hex _ _ (Option.some.inj h).symm
    · rw [if_neg hc] at h
      refine jw_aload_n hX dX7_readsDraft_255 rfl 0 rfl ?_
      refine jw_mgetA hX hT inX7_readsDraft 46 (by decide) lkX7_readsDraft_119 rfl dX7_readsDraft_256 ?_
      refine jw_aload_n hX dX7_readsDraft_259 rfl 0 rfl ?_
      refine jw_mgetI hX hT inX7_readsDraft 45 (by decide) lkX7_readsDraft_176 rfl dX7_readsDraft_260 ?_
      refine jw_aload_n hX dX7_readsDraft_263 rfl 0 rfl ?_
      refine jw_mgetA hX hT inX7_readsDraft 41 (by decide) lkX7_readsDraft_107 rfl dX7_readsDraft_264 ?_
      refine jw_aload_n hX dX7_readsDraft_267 rfl 0 rfl ?_
      refine jw_mgetA hX hT inX7_readsDraft 34 (by decide) lkX7_readsDraft_92 rfl dX7_readsDraft_268 ?_
      refine jw_iload_n hX dX7_readsDraft_271 rfl 2 rfl ?_
      obtain ⟨hb272, h⟩ := chk_some h
      refine jw_miald hX hT 27 34 rfl rfl hb272 dX7_readsDraft_272 ?_
      refine jw_iload hX dX7_readsDraft_273 3 rfl ?_
      refine jw_iadd hX dX7_readsDraft_275 ?_
      obtain ⟨hb276, h⟩ := chk_some h
      refine jw_miald hX hT 32 41 rfl rfl hb276 dX7_readsDraft_276 ?_
      obtain ⟨hb277, h⟩ := chk_some h
      refine jw_miast hX hT 36 46 rfl rfl hb277 dX7_readsDraft_277 (fun w277 e277 => ?_)
      replace h := bnd_some h w277 e277
      clear e277
      refine jw_aload_n hX dX7_readsDraft_278 rfl 0 rfl ?_
      refine jw_dup hX dX7_readsDraft_279 rfl ?_
      refine jw_mgetI hX hT inX7_readsDraft 45 (by decide) lkX7_readsDraft_176 rfl dX7_readsDraft_280 ?_
      refine jw_iconst (v := (1 : Int32)) hX dX7_readsDraft_283 (by decide) ?_
      refine jw_iadd hX dX7_readsDraft_284 ?_
      refine jw_mputI hX hT inX7_readsDraft 45 (by decide) lkX7_readsDraft_176 rfl dX7_readsDraft_285 (fun w285 e285 => ?_)
      replace h := bnd_some h w285 e285
      clear e285
      refine jw_iinc (v := (v4 + (1 : Int32))) hX [(4, .int (v4 + (1 : Int32))), (0, .ref a), (2, .int v2), (3, .int v3)] dX7_readsDraft_288 3 rfl (by first | rfl | (congr 1; decide)) (by decide) rfl ?_
      refine jw_goto (tgt := 244) hX dX7_readsDraft_291 (by decide) ?_
      refine jw_sub [1, 2, 3, 0] [(0, .ref a), (2, .int v2), (3, .int v3), (4, .int (v4 + (1 : Int32)))] rfl ?_
      exact hrec _ _ _ _ h
set_option maxRecDepth 100000 in
set_option maxHeartbeats 4000000 in
theorem sX7_readsDraft_J241 {X : JX} {a : Nat} {ad : Nat → Nat} {cI cZ cO cJ : ClassId} {n : Nat} {post : Option Value → va_W → Prop} (hX : jOK X cX7_readsDraft 6 wsX7_readsDraft RX7 rmX7_readsDraft) (hT : jT X = jTy cI cZ cO cJ) (hGX : jG X jG0) (hret : jRV X cX7_readsDraft rmX7_readsDraft post) {o : (MW)} {rec : MW → Int32 → Option (MW)} (hrec : ∀ (w : MW) (v2 : Int32), rec w v2 = some o → JW X 0 0 (mW a ad cI cZ w) 199 [(0, .ref a), (2, .int v2)] [])  (hex : ∀ (w9 : MW), o = w9 → JW X 0 0 (mW a ad cI cZ w9) 300 [] [])  {w : MW} {v2 v3 : Int32} (h : fX7_readsDraft_J241 n rec w v2 v3 = some o) : JW X 0 0 (mW a ad cI cZ w) 241 [(0, .ref a), (2, .int v2), (3, .int v3)] [] := by
  unfold fX7_readsDraft_J241 at h
  refine jw_iconst (v := (0 : Int32)) hX dX7_readsDraft_241 (by decide) ?_
  refine jw_istore hX [(4, .int (0 : Int32)), (0, .ref a), (2, .int v2), (3, .int v3)] dX7_readsDraft_242 (by decide) rfl ?_
  refine jw_sub [1, 2, 3, 0] [(0, .ref a), (2, .int v2), (3, .int v3), (4, .int (0 : Int32))] rfl ?_
  obtain ⟨x2_244, wx244, hl244, h⟩ := bL2_some h
  refine sX7_readsDraft_L244 hX hT hGX hret (o := (x2_244, wx244)) (fun q0 q1 e9 => ?_) n _ _ _ _ hl244
  cases e9
  refine jw_iinc (v := (x2_244 + (1 : Int32))) hX [(2, .int (x2_244 + (1 : Int32))), (0, .ref a)] dX7_readsDraft_294 1 rfl (by first | rfl | (congr 1; decide)) (by decide) rfl ?_
  refine jw_goto (tgt := 199) hX dX7_readsDraft_297 (by decide) ?_
  refine jw_sub [1, 0] [(0, .ref a), (2, .int (x2_244 + (1 : Int32)))] rfl ?_
  exact hrec _ _ h
set_option maxRecDepth 100000 in
set_option maxHeartbeats 4000000 in
theorem sX7_readsDraft_L199 {X : JX} {a : Nat} {ad : Nat → Nat} {cI cZ cO cJ : ClassId} {n : Nat} {post : Option Value → va_W → Prop} (hX : jOK X cX7_readsDraft 6 wsX7_readsDraft RX7 rmX7_readsDraft) (hT : jT X = jTy cI cZ cO cJ) (hGX : jG X jG0) (hret : jRV X cX7_readsDraft rmX7_readsDraft post) {o : (MW)} (hex : ∀ (w9 : MW), o = w9 → JW X 0 0 (mW a ad cI cZ w9) 300 [] [])  : ∀ (k : Nat) (w : MW) (v2 : Int32), fX7_readsDraft_L199 n k w v2 = some o → JW X 0 0 (mW a ad cI cZ w) 199 [(0, .ref a), (2, .int v2)] [] := by
  intro k
  induction k with
  | zero => intro w v2 h; cases h
  | succ k hrec0 =>
    intro w v2 h
    have hrec := hrec0
    unfold fX7_readsDraft_L199 at h
    refine jw_iload_n hX dX7_readsDraft_199 rfl 1 rfl ?_
    refine jw_aload_n hX dX7_readsDraft_200 rfl 0 rfl ?_
    refine jw_mgetA hX hT inX7_readsDraft 42 (by decide) lkX7_readsDraft_110 rfl dX7_readsDraft_201 ?_
    refine jw_iconst (v := (0 : Int32)) hX dX7_readsDraft_204 (by decide) ?_
    obtain ⟨hb205, h⟩ := chk_some h
    refine jw_miald hX hT 33 42 rfl rfl hb205 dX7_readsDraft_205 ?_
    refine jw_icmp_ge (tgt := 300) hX dX7_readsDraft_206 (by decide) (fun hc => ?_) (fun hc => ?_)
    · rw [if_pos hc] at h
      refine jw_sub [] [] rfl ?_
      exact hex _ (Option.some.inj h).symm
    · rw [if_neg hc] at h
      refine jw_aload_n hX dX7_readsDraft_209 rfl 0 rfl ?_
      refine jw_mgetA hX hT inX7_readsDraft 43 (by decide) lkX7_readsDraft_113 rfl dX7_readsDraft_210 ?_
      refine jw_iload_n hX dX7_readsDraft_213 rfl 1 rfl ?_
      obtain ⟨hb214, h⟩ := chk_some h
      refine jw_miald hX hT 34 43 rfl rfl hb214 dX7_readsDraft_214 ?_
      refine jw_topi (fun y215 e215 => ?_)
      replace h := bnd_some h y215 e215
      clear e215
      refine jw_istore_n hX [(3, .int y215), (0, .ref a), (2, .int v2)] dX7_readsDraft_215 rfl (by decide) rfl ?_
      refine jw_iload_n hX dX7_readsDraft_216 rfl 2 rfl ?_
      refine jw_if_le (tgt := 241) hX dX7_readsDraft_217 (by decide) (fun hc => ?_) (fun hc => ?_)
      · rw [if_pos hc] at h
        refine jw_sub [1, 2, 0] [(0, .ref a), (2, .int v2), (3, .int y215)] rfl ?_
        exact sX7_readsDraft_J241 hX hT hGX hret hrec hex h
      · rw [if_neg hc] at h
        refine jw_aload_n hX dX7_readsDraft_220 rfl 1 rfl ?_
        refine jw_mgetA hX hT inX7_readsDraft 46 (by decide) lkX7_readsDraft_119 rfl dX7_readsDraft_221 ?_
        refine jw_aload_n hX dX7_readsDraft_224 rfl 1 rfl ?_
        refine jw_mgetI hX hT inX7_readsDraft 45 (by decide) lkX7_readsDraft_176 rfl dX7_readsDraft_225 ?_
        refine jw_bipush (v := (32 : Int32)) hX dX7_readsDraft_228 (by decide) ?_
        obtain ⟨hb230, h⟩ := chk_some h
        refine jw_miast hX hT 36 46 rfl rfl hb230 dX7_readsDraft_230 (fun w230 e230 => ?_)
        replace h := bnd_some h w230 e230
        clear e230
        refine jw_aload_n hX dX7_readsDraft_231 rfl 1 rfl ?_
        refine jw_dup hX dX7_readsDraft_232 rfl ?_
        refine jw_mgetI hX hT inX7_readsDraft 45 (by decide) lkX7_readsDraft_176 rfl dX7_readsDraft_233 ?_
        refine jw_iconst (v := (1 : Int32)) hX dX7_readsDraft_236 (by decide) ?_
        refine jw_iadd hX dX7_readsDraft_237 ?_
        refine jw_mputI hX hT inX7_readsDraft 45 (by decide) lkX7_readsDraft_176 rfl dX7_readsDraft_238 (fun w238 e238 => ?_)
        replace h := bnd_some h w238 e238
        clear e238
        refine jw_sub [1, 2, 0] [(0, .ref a), (2, .int v2), (3, .int y215)] rfl ?_
        exact sX7_readsDraft_J241 hX hT hGX hret hrec hex h
set_option maxRecDepth 100000 in
set_option maxHeartbeats 4000000 in
theorem sX7_readsDraft {X : JX} {a : Nat} {ad : Nat → Nat} {cI cZ cO cJ : ClassId} {n : Nat} {post : Option Value → va_W → Prop} (hX : jOK X cX7_readsDraft 6 wsX7_readsDraft RX7 rmX7_readsDraft) (hT : jT X = jTy cI cZ cO cJ) (hGX : jG X jG0) (hret : jRV X cX7_readsDraft rmX7_readsDraft post) {o : MW} (hro : ∀ w9 : MW, o = w9 → post none (mW a ad cI cZ w9)) {w : MW} (h : fX7_readsDraft n w  = some o) : JW X 0 0 (mW a ad cI cZ w) 0 [(0, .ref a)] [] := by
  unfold fX7_readsDraft at h
  refine jw_aload_n hX dX7_readsDraft_0 rfl 0 rfl ?_
  refine jw_iconst (v := (0 : Int32)) hX dX7_readsDraft_1 (by decide) ?_
  refine jw_mputI hX hT inX7_readsDraft 26 (by decide) lkX7_readsDraft_167 rfl dX7_readsDraft_2 (fun w2 e2 => ?_)
  replace h := bnd_some h w2 e2
  clear e2
  refine jw_aload_n hX dX7_readsDraft_5 rfl 0 rfl ?_
  refine jw_iconst (v := (0 : Int32)) hX dX7_readsDraft_6 (by decide) ?_
  refine jw_mputI hX hT inX7_readsDraft 31 (by decide) lkX7_readsDraft_147 rfl dX7_readsDraft_7 (fun w7 e7 => ?_)
  replace h := bnd_some h w7 e7
  clear e7
  refine jw_aload_n hX dX7_readsDraft_10 rfl 0 rfl ?_
  refine jw_iconst (v := (0 : Int32)) hX dX7_readsDraft_11 (by decide) ?_
  refine jw_mputI hX hT inX7_readsDraft 38 (by decide) lkX7_readsDraft_150 rfl dX7_readsDraft_12 (fun w12 e12 => ?_)
  replace h := bnd_some h w12 e12
  clear e12
  refine jw_aload_n hX dX7_readsDraft_15 rfl 0 rfl ?_
  refine jw_iconst (v := (0 : Int32)) hX dX7_readsDraft_16 (by decide) ?_
  refine jw_mputI hX hT inX7_readsDraft 40 (by decide) lkX7_readsDraft_140 rfl dX7_readsDraft_17 (fun w17 e17 => ?_)
  replace h := bnd_some h w17 e17
  clear e17
  refine jw_iconst (v := (0 : Int32)) hX dX7_readsDraft_20 (by decide) ?_
  refine jw_istore_n hX [(1, .int (0 : Int32)), (0, .ref a)] dX7_readsDraft_21 rfl (by decide) rfl ?_
  refine jw_aload_n hX dX7_readsDraft_22 rfl 1 rfl ?_
  refine jw_mgetA hX hT inX7_readsDraft 42 (by decide) lkX7_readsDraft_110 rfl dX7_readsDraft_23 ?_
  refine jw_iconst (v := (0 : Int32)) hX dX7_readsDraft_26 (by decide) ?_
  refine jw_iconst (v := (0 : Int32)) hX dX7_readsDraft_27 (by decide) ?_
  obtain ⟨hb28, h⟩ := chk_some h
  refine jw_miast hX hT 33 42 rfl rfl hb28 dX7_readsDraft_28 (fun w28 e28 => ?_)
  replace h := bnd_some h w28 e28
  clear e28
  refine jw_iconst (v := (0 : Int32)) hX dX7_readsDraft_29 (by decide) ?_
  refine jw_istore_n hX [(2, .int (0 : Int32)), (1, .int (0 : Int32)), (0, .ref a)] dX7_readsDraft_30 rfl (by decide) rfl ?_
  refine jw_sub [2, 1, 0] [(0, .ref a), (1, .int (0 : Int32)), (2, .int (0 : Int32))] rfl ?_
  obtain ⟨wx31, hl31, h⟩ := bL1_some h
  refine sX7_readsDraft_L31 hX hT hGX hret (o := wx31) (fun q0 e9 => ?_) n _ _ _ hl31
  cases e9
  refine jw_aload_n hX dX7_readsDraft_192 rfl 0 rfl ?_
  refine jw_iconst (v := (0 : Int32)) hX dX7_readsDraft_193 (by decide) ?_
  refine jw_mputI hX hT inX7_readsDraft 45 (by decide) lkX7_readsDraft_176 rfl dX7_readsDraft_194 (fun w194 e194 => ?_)
  replace h := bnd_some h w194 e194
  clear e194
  refine jw_iconst (v := (0 : Int32)) hX dX7_readsDraft_197 (by decide) ?_
  refine jw_istore_n hX [(2, .int (0 : Int32)), (0, .ref a)] dX7_readsDraft_198 rfl (by decide) rfl ?_
  refine jw_sub [1, 0] [(0, .ref a), (2, .int (0 : Int32))] rfl ?_
  obtain ⟨wx199, hl199, h⟩ := bL1_some h
  refine sX7_readsDraft_L199 hX hT hGX hret (o := wx199) (fun q0 e9 => ?_) n _ _ hl199
  cases e9
  exact hret _ _ _ _ _ (Nat.zero_le _) (Nat.zero_le _) dX7_readsDraft_300 (hro _ (Option.some.inj h).symm)
set_option maxRecDepth 100000 in
set_option maxHeartbeats 4000000 in
theorem kX7_readsDraft {l : Launch} {D : va_G} {tys : List (ClassId × FieldType)} {a : Nat} {ad : Nat → Nat} {cI cZ cO cJ : ClassId} {n : Nat} {w : MW}  {w1 : MW} (hT : tys = jTy cI cZ cO cJ) (h : fX7_readsDraft n w  = some w1) : CC l jG0 D tys yX7_readsDraft wsX7_readsDraft rmX7_readsDraft [.ref a] (mW a ad cI cZ w) (fun ov w2 => ov = none ∧ w2 = (mW a ad cI cZ w1)) := by
  refine CC_of (cc := cX7_readsDraft) (maxL := 6) (ret := none) (by decide) rfl (by decide) ?_
  intro X hD hL hT0 hGX hX rI rZ rV rA
  exact sX7_readsDraft hX (hT0.trans hT) hGX (fun cells slots w9 pc lv => rV cells slots w9 pc lv rfl) (o := w1) (fun w9 e9 => by cases e9; exact ⟨rfl, rfl⟩) h
/-! X7_readCount -/
abbrev rmX7_readCount : Room := { frames := 0, cells := 0, slots := 0, locals := 0 }
theorem hdX7_readCount : yX7_readCount.cls = RX7 ∧ yX7_readCount.cls ≠ "java/lang/invoke/MethodHandle" ∧ yX7_readCount.cls ≠ "java/lang/invoke/VarHandle" ∧ (parseMethodDescriptor yX7_readCount.desc).map (fun d => d.parameters.length) = some 0 := by decide +kernel
theorem inX7_readCount : ∀ w ∈ wsX70, w ∈ wsX7_readCount := fun _ h => List.mem_cons_of_mem _ (List.mem_append_right _ h)
theorem lkX7_readCount_167 : Cond.fieldLink RX7 167 "PostlintModel" (TX7 26).2.1 (TX7 26).2.2.1 ∈ wsX7_readCount := by decide +kernel
theorem lkX7_readCount_83 : Cond.fieldLink RX7 83 "PostlintModel" (TX7 30).2.1 (TX7 30).2.2.1 ∈ wsX7_readCount := by decide +kernel
def fX7_readCount_L4 (n : Nat) : Nat → MW → Int32 → Int32 → Option (Int32)
  | 0, _, _, _ => none
  | k + 1, w, v1, v2 => (if (w.1 26) ≤ v2 then some (v1) else chk (inB v2 (mLen 30)) (bnd ((v1 + (w.2 30 (v2).toNatClampNeg))) (fun y20 => fX7_readCount_L4 n k w y20 ((v2 + (1 : Int32))))))
def fX7_readCount (n : Nat) (w : MW) : Option Int32 := bL1 (fX7_readCount_L4 n n w (0 : Int32) (0 : Int32)) (fun x1_4 => some x1_4)
set_option maxRecDepth 100000 in
set_option maxHeartbeats 4000000 in
theorem sX7_readCount_L4 {X : JX} {a : Nat} {ad : Nat → Nat} {cI cZ cO cJ : ClassId} {n : Nat} {w : MW} {post : Option Value → va_W → Prop} (hX : jOK X cX7_readCount 3 wsX7_readCount RX7 rmX7_readCount) (hT : jT X = jTy cI cZ cO cJ) (hGX : jG X jG0) (hret : jRI X cX7_readCount rmX7_readCount post) {o : (Int32)} (hex : ∀ (x1 : Int32), o = x1 → JW X 0 0 (mW a ad cI cZ w) 27 [(1, .int x1)] [])  : ∀ (k : Nat) (v1 v2 : Int32), fX7_readCount_L4 n k w v1 v2 = some o → JW X 0 0 (mW a ad cI cZ w) 4 [(0, .ref a), (1, .int v1), (2, .int v2)] [] := by
  intro k
  induction k with
  | zero => intro v1 v2 h; cases h
  | succ k hrec0 =>
    intro v1 v2 h
    have hrec := fun (_ : MW) => hrec0
    unfold fX7_readCount_L4 at h
    refine jw_iload_n hX dX7_readCount_4 rfl 2 rfl ?_
    refine jw_aload_n hX dX7_readCount_5 rfl 0 rfl ?_
    refine jw_mgetI hX hT inX7_readCount 26 (by decide) lkX7_readCount_167 rfl dX7_readCount_6 ?_
    refine jw_icmp_ge (tgt := 27) hX dX7_readCount_9 (by decide) (fun hc => ?_) (fun hc => ?_)
    · rw [if_pos hc] at h
      refine jw_sub [1] [(1, .int v1)] rfl ?_
      exact hex _ (Option.some.inj h).symm
    · rw [if_neg hc] at h
      refine jw_iload_n hX dX7_readCount_12 rfl 1 rfl ?_
      refine jw_aload_n hX dX7_readCount_13 rfl 0 rfl ?_
      refine jw_mgetA hX hT inX7_readCount 30 (by decide) lkX7_readCount_83 rfl dX7_readCount_14 ?_
      refine jw_iload_n hX dX7_readCount_17 rfl 2 rfl ?_
      obtain ⟨hb18, h⟩ := chk_some h
      refine jw_miald hX hT 24 30 rfl rfl hb18 dX7_readCount_18 ?_
      refine jw_iadd hX dX7_readCount_19 ?_
      refine jw_topi (fun y20 e20 => ?_)
      replace h := bnd_some h y20 e20
      clear e20
      refine jw_istore_n hX [(1, .int y20), (0, .ref a), (2, .int v2)] dX7_readCount_20 rfl (by decide) rfl ?_
      refine jw_iinc (v := (v2 + (1 : Int32))) hX [(2, .int (v2 + (1 : Int32))), (1, .int y20), (0, .ref a)] dX7_readCount_21 2 rfl (by first | rfl | (congr 1; decide)) (by decide) rfl ?_
      refine jw_goto (tgt := 4) hX dX7_readCount_24 (by decide) ?_
      refine jw_sub [2, 1, 0] [(0, .ref a), (1, .int y20), (2, .int (v2 + (1 : Int32)))] rfl ?_
      exact hrec w _ _ h
set_option maxRecDepth 100000 in
set_option maxHeartbeats 4000000 in
theorem sX7_readCount {X : JX} {a : Nat} {ad : Nat → Nat} {cI cZ cO cJ : ClassId} {n : Nat} {w : MW} {post : Option Value → va_W → Prop} (hX : jOK X cX7_readCount 3 wsX7_readCount RX7 rmX7_readCount) (hT : jT X = jTy cI cZ cO cJ) (hGX : jG X jG0) (hret : jRI X cX7_readCount rmX7_readCount post) {o : Int32} (hro : ∀ v9 : Int32, o = v9 → post (some (.int v9)) (mW a ad cI cZ w)) (h : fX7_readCount n w  = some o) : JW X 0 0 (mW a ad cI cZ w) 0 [(0, .ref a)] [] := by
  unfold fX7_readCount at h
  refine jw_iconst (v := (0 : Int32)) hX dX7_readCount_0 (by decide) ?_
  refine jw_istore_n hX [(1, .int (0 : Int32)), (0, .ref a)] dX7_readCount_1 rfl (by decide) rfl ?_
  refine jw_iconst (v := (0 : Int32)) hX dX7_readCount_2 (by decide) ?_
  refine jw_istore_n hX [(2, .int (0 : Int32)), (1, .int (0 : Int32)), (0, .ref a)] dX7_readCount_3 rfl (by decide) rfl ?_
  refine jw_sub [2, 1, 0] [(0, .ref a), (1, .int (0 : Int32)), (2, .int (0 : Int32))] rfl ?_
  obtain ⟨x1_4, hl4, h⟩ := bL1_some h
  refine sX7_readCount_L4 hX hT hGX hret (o := x1_4) (fun q0 e9 => ?_) n _ _ hl4
  cases e9
  refine jw_iload_n hX dX7_readCount_27 rfl 0 rfl ?_
  exact hret _ _ _ _ _ _ (Nat.zero_le _) (Nat.zero_le _) dX7_readCount_28 (hro _ (Option.some.inj h).symm)
set_option maxRecDepth 100000 in
set_option maxHeartbeats 4000000 in
theorem kX7_readCount {l : Launch} {D : va_G} {tys : List (ClassId × FieldType)} {a : Nat} {ad : Nat → Nat} {cI cZ cO cJ : ClassId} {n : Nat} {w : MW}  {r : Int32} (hT : tys = jTy cI cZ cO cJ) (h : fX7_readCount n w  = some r) : CC l jG0 D tys yX7_readCount wsX7_readCount rmX7_readCount [.ref a] (mW a ad cI cZ w) (fun ov w2 => ov = some (.int r) ∧ w2 = (mW a ad cI cZ w)) := by
  refine CC_of (cc := cX7_readCount) (maxL := 3) (ret := (some .int)) (by decide) rfl (by decide) ?_
  intro X hD hL hT0 hGX hX rI rZ rV rA
  exact sX7_readCount hX (hT0.trans hT) hGX (fun cells slots w9 pc lv v => rI cells slots w9 pc lv v rfl) (o := r) (fun v9 e9 => by cases e9; exact ⟨rfl, rfl⟩) h
/-! X7_canBe -/
abbrev rmX7_canBe : Room := { frames := 4, cells := 0, slots := 0, locals := 99 }
theorem hdX7_canBe : yX7_canBe.cls = RX7 ∧ yX7_canBe.cls ≠ "java/lang/invoke/MethodHandle" ∧ yX7_canBe.cls ≠ "java/lang/invoke/VarHandle" ∧ (parseMethodDescriptor yX7_canBe.desc).map (fun d => d.parameters.length) = some 0 := by decide +kernel
def fX7_canBe (n : Nat) (w : MW) : Option (Int32 × MW) := bP (fX7_draftFault n w ) (fun r1 => (if r1 = (-1 : Int32) then bP (fX7_readsDraft n w ) (fun w11 => bP (fX7_readCount n w11 ) (fun r15 => (if (60 : Int32) < r15 then chk (b01 (0 : Int32)) (some ((0 : Int32), w11)) else chk (b01 (1 : Int32)) (some ((1 : Int32), w11))))) else chk (b01 (0 : Int32)) (some ((0 : Int32), w))))
set_option maxRecDepth 100000 in
set_option maxHeartbeats 4000000 in
theorem sX7_canBe {X : JX} {a : Nat} {ad : Nat → Nat} {cI cZ cO cJ : ClassId} {n : Nat} {post : Option Value → va_W → Prop} (hX : jOK X cX7_canBe 1 wsX7_canBe RX7 rmX7_canBe) (hT : jT X = jTy cI cZ cO cJ) (hGX : jG X jG0) (hret : jRZ X cX7_canBe rmX7_canBe post) {o : (Int32 × MW)} (hro : ∀ (v9 : Int32) (w9 : MW), o = (v9, w9) → post (some (.int v9)) (mW a ad cI cZ w9)) {w : MW} (h : fX7_canBe n w  = some o) : JW X 0 0 (mW a ad cI cZ w) 0 [(0, .ref a)] [] := by
  unfold fX7_canBe at h
  refine jw_aload_n hX dX7_canBe_0 rfl 0 rfl ?_
  obtain ⟨r1, hc1, h⟩ := bP_some h
  refine jw_cVi (As := []) hX jG0_ok hGX 0 (kX7_draftFault hT hc1) gX7_canBe_X7_draftFault rfl hdX7_draftFault ⟨by decide, by decide⟩ 0 7 rfl rfl rfl (by decide) dX7_canBe_1 rfl rfl ⟨by decide, by decide⟩ ?_
  refine jw_iconst (v := (-1 : Int32)) hX dX7_canBe_4 (by decide) ?_
  refine jw_icmp_eq (tgt := 10) hX dX7_canBe_5 (by decide) (fun hc => ?_) (fun hc => ?_)
  · rw [if_pos hc] at h
    refine jw_aload_n hX dX7_canBe_10 rfl 0 rfl ?_
    obtain ⟨w11, hc11, h⟩ := bP_some h
    refine jw_cVv (As := []) hX jG0_ok hGX 0 (kX7_readsDraft hT hc11) gX7_canBe_X7_readsDraft rfl hdX7_readsDraft ⟨by decide, by decide⟩ 0 7 rfl rfl rfl (by decide) dX7_canBe_11 rfl rfl ⟨by decide, by decide⟩ ?_
    refine jw_aload_n hX dX7_canBe_14 rfl 0 rfl ?_
    obtain ⟨r15, hc15, h⟩ := bP_some h
    refine jw_cVi (As := []) hX jG0_ok hGX 0 (kX7_readCount hT hc15) gX7_canBe_X7_readCount rfl hdX7_readCount ⟨by decide, by decide⟩ 0 7 rfl rfl rfl (by decide) dX7_canBe_15 rfl rfl ⟨by decide, by decide⟩ ?_
    refine jw_bipush (v := (60 : Int32)) hX dX7_canBe_18 (by decide) ?_
    refine jw_icmp_gt (tgt := 27) hX dX7_canBe_20 (by decide) (fun hc => ?_) (fun hc => ?_)
    · rw [if_pos hc] at h
      refine jw_iconst (v := (0 : Int32)) hX dX7_canBe_27 (by decide) ?_
      obtain ⟨hz28, h⟩ := chk_some h
      exact hret _ _ _ _ _ _ (b01_or hz28) (Nat.zero_le _) (Nat.zero_le _) dX7_canBe_28 (hro _ _ (Option.some.inj h).symm)
    · rw [if_neg hc] at h
      refine jw_iconst (v := (1 : Int32)) hX dX7_canBe_23 (by decide) ?_
      refine jw_goto (tgt := 28) hX dX7_canBe_24 (by decide) ?_
      obtain ⟨hz28, h⟩ := chk_some h
      exact hret _ _ _ _ _ _ (b01_or hz28) (Nat.zero_le _) (Nat.zero_le _) dX7_canBe_28 (hro _ _ (Option.some.inj h).symm)
  · rw [if_neg hc] at h
    refine jw_iconst (v := (0 : Int32)) hX dX7_canBe_8 (by decide) ?_
    obtain ⟨hz9, h⟩ := chk_some h
    exact hret _ _ _ _ _ _ (b01_or hz9) (Nat.zero_le _) (Nat.zero_le _) dX7_canBe_9 (hro _ _ (Option.some.inj h).symm)
set_option maxRecDepth 100000 in
set_option maxHeartbeats 4000000 in
theorem kX7_canBe {l : Launch} {D : va_G} {tys : List (ClassId × FieldType)} {a : Nat} {ad : Nat → Nat} {cI cZ cO cJ : ClassId} {n : Nat} {w : MW}  {r : Int32} {w1 : MW} (hT : tys = jTy cI cZ cO cJ) (h : fX7_canBe n w  = some (r, w1)) : CC l jG0 D tys yX7_canBe wsX7_canBe rmX7_canBe [.ref a] (mW a ad cI cZ w) (fun ov w2 => ov = some (.int r) ∧ w2 = (mW a ad cI cZ w1)) := by
  refine CC_of (cc := cX7_canBe) (maxL := 1) (ret := (some .boolean)) (by decide) rfl (by decide) ?_
  intro X hD hL hT0 hGX hX rI rZ rV rA
  exact sX7_canBe hX (hT0.trans hT) hGX (fun cells slots w9 pc lv v => rZ cells slots w9 pc lv v rfl) (o := (r, w1)) (fun v9 w9 e9 => by cases e9; exact ⟨rfl, rfl⟩) h
/-! X7_lays -/
abbrev rmX7_lays : Room := { frames := 0, cells := 0, slots := 0, locals := 0 }
theorem hdX7_lays : yX7_lays.cls = RX7 ∧ yX7_lays.cls ≠ "java/lang/invoke/MethodHandle" ∧ yX7_lays.cls ≠ "java/lang/invoke/VarHandle" ∧ (parseMethodDescriptor yX7_lays.desc).map (fun d => d.parameters.length) = some 1 := by decide +kernel
theorem inX7_lays : ∀ w ∈ wsX70, w ∈ wsX7_lays := fun _ h => List.mem_cons_of_mem _ (List.mem_append_right _ h)
theorem lkX7_lays_119 : Cond.fieldLink RX7 119 "PostlintModel" (TX7 46).2.1 (TX7 46).2.2.1 ∈ wsX7_lays := by decide +kernel
theorem lkX7_lays_13 : Cond.fieldLink RX7 13 "PostlintModel" (TX7 4).2.1 (TX7 4).2.2.1 ∈ wsX7_lays := by decide +kernel
theorem lkX7_lays_133 : Cond.fieldLink RX7 133 "PostlintModel" (TX7 1).2.1 (TX7 1).2.2.1 ∈ wsX7_lays := by decide +kernel
theorem lkX7_lays_167 : Cond.fieldLink RX7 167 "PostlintModel" (TX7 26).2.1 (TX7 26).2.2.1 ∈ wsX7_lays := by decide +kernel
theorem lkX7_lays_17 : Cond.fieldLink RX7 17 "PostlintModel" (TX7 5).2.1 (TX7 5).2.2.1 ∈ wsX7_lays := by decide +kernel
theorem lkX7_lays_176 : Cond.fieldLink RX7 176 "PostlintModel" (TX7 45).2.1 (TX7 45).2.2.1 ∈ wsX7_lays := by decide +kernel
theorem lkX7_lays_20 : Cond.fieldLink RX7 20 "PostlintModel" (TX7 6).2.1 (TX7 6).2.2.1 ∈ wsX7_lays := by decide +kernel
theorem lkX7_lays_23 : Cond.fieldLink RX7 23 "PostlintModel" (TX7 7).2.1 (TX7 7).2.2.1 ∈ wsX7_lays := by decide +kernel
theorem lkX7_lays_26 : Cond.fieldLink RX7 26 "PostlintModel" (TX7 8).2.1 (TX7 8).2.2.1 ∈ wsX7_lays := by decide +kernel
theorem lkX7_lays_29 : Cond.fieldLink RX7 29 "PostlintModel" (TX7 9).2.1 (TX7 9).2.2.1 ∈ wsX7_lays := by decide +kernel
theorem lkX7_lays_32 : Cond.fieldLink RX7 32 "PostlintModel" (TX7 10).2.1 (TX7 10).2.2.1 ∈ wsX7_lays := by decide +kernel
theorem lkX7_lays_35 : Cond.fieldLink RX7 35 "PostlintModel" (TX7 11).2.1 (TX7 11).2.2.1 ∈ wsX7_lays := by decide +kernel
theorem lkX7_lays_38 : Cond.fieldLink RX7 38 "PostlintModel" (TX7 12).2.1 (TX7 12).2.2.1 ∈ wsX7_lays := by decide +kernel
theorem lkX7_lays_41 : Cond.fieldLink RX7 41 "PostlintModel" (TX7 13).2.1 (TX7 13).2.2.1 ∈ wsX7_lays := by decide +kernel
theorem lkX7_lays_7 : Cond.fieldLink RX7 7 "PostlintModel" (TX7 2).2.1 (TX7 2).2.2.1 ∈ wsX7_lays := by decide +kernel
theorem lkX7_lays_74 : Cond.fieldLink RX7 74 "PostlintModel" (TX7 27).2.1 (TX7 27).2.2.1 ∈ wsX7_lays := by decide +kernel
theorem lkX7_lays_77 : Cond.fieldLink RX7 77 "PostlintModel" (TX7 28).2.1 (TX7 28).2.2.1 ∈ wsX7_lays := by decide +kernel
theorem lkX7_lays_80 : Cond.fieldLink RX7 80 "PostlintModel" (TX7 29).2.1 (TX7 29).2.2.1 ∈ wsX7_lays := by decide +kernel
theorem lkX7_lays_83 : Cond.fieldLink RX7 83 "PostlintModel" (TX7 30).2.1 (TX7 30).2.2.1 ∈ wsX7_lays := by decide +kernel
def fX7_lays_L19 (n : Nat) : Nat → MW → Int32 → Int32 → Option (Int32 × MW)
  | 0, _, _, _ => none
  | k + 1, w, v1, v2 => (if (w.1 1) ≤ v2 then some (v1, w) else chk (inB v2 (mLen 2)) (chk (inB (((60 : Int32) * v1) + v2) (mLen 6)) (bnd (mA w 6 ((((60 : Int32) * v1) + v2)).toNatClampNeg (w.2 2 (v2).toNatClampNeg)) (fun w43 => fX7_lays_L19 n k w43 v1 ((v2 + (1 : Int32)))))))
def fX7_lays_L62 (n : Nat) : Nat → MW → Int32 → Int32 → Option (Int32 × MW)
  | 0, _, _, _ => none
  | k + 1, w, v1, v2 => (if (w.1 45) ≤ v2 then some (v1, w) else chk (inB v2 (mLen 46)) (chk (inB (((60 : Int32) * v1) + v2) (mLen 8)) (bnd (mA w 8 ((((60 : Int32) * v1) + v2)).toNatClampNeg (w.2 46 (v2).toNatClampNeg)) (fun w86 => fX7_lays_L62 n k w86 v1 ((v2 + (1 : Int32)))))))
def fX7_lays_L105 (n : Nat) : Nat → MW → Int32 → Int32 → Option (MW)
  | 0, _, _, _ => none
  | k + 1, w, v1, v2 => (if (w.1 26) ≤ v2 then some (w) else chk (inB v2 (mLen 27)) (chk (inB (((16 : Int32) * v1) + v2) (mLen 10)) (bnd (mA w 10 ((((16 : Int32) * v1) + v2)).toNatClampNeg (w.2 27 (v2).toNatClampNeg)) (fun w129 => chk (inB v2 (mLen 28)) (chk (inB (((16 : Int32) * v1) + v2) (mLen 11)) (chk (b01 (w129.2 28 (v2).toNatClampNeg)) (bnd (mA w129 11 ((((16 : Int32) * v1) + v2)).toNatClampNeg (w129.2 28 (v2).toNatClampNeg)) (fun w146 => chk (inB v2 (mLen 29)) (chk (inB (((16 : Int32) * v1) + v2) (mLen 12)) (bnd (mA w146 12 ((((16 : Int32) * v1) + v2)).toNatClampNeg (w146.2 29 (v2).toNatClampNeg)) (fun w163 => chk (inB v2 (mLen 30)) (chk (inB (((16 : Int32) * v1) + v2) (mLen 13)) (bnd (mA w163 13 ((((16 : Int32) * v1) + v2)).toNatClampNeg (w163.2 30 (v2).toNatClampNeg)) (fun w180 => fX7_lays_L105 n k w180 v1 ((v2 + (1 : Int32)))))))))))))))))
def fX7_lays (n : Nat) (w : MW) (v1 : Int32) : Option MW := chk (inB v1 (mLen 4)) (chk (b01 (0 : Int32)) (bnd (mA w 4 (v1).toNatClampNeg (0 : Int32)) (fun w6 => chk (inB v1 (mLen 5)) (bnd (mA w6 5 (v1).toNatClampNeg (w6.1 1)) (fun w16 => bL2 (fX7_lays_L19 n n w16 v1 (0 : Int32)) (fun x1_19 wx19 => chk (inB x1_19 (mLen 7)) (bnd (mA wx19 7 (x1_19).toNatClampNeg (wx19.1 45)) (fun w59 => bL2 (fX7_lays_L62 n n w59 x1_19 (0 : Int32)) (fun x1_62 wx62 => chk (inB x1_62 (mLen 9)) (bnd (mA wx62 9 (x1_62).toNatClampNeg (wx62.1 26)) (fun w102 => bL1 (fX7_lays_L105 n n w102 x1_62 (0 : Int32)) (fun wx105 => bnd (mS wx105 1 (0 : Int32)) (fun w189 => some w189)))))))))))))
set_option maxRecDepth 100000 in
set_option maxHeartbeats 4000000 in
theorem sX7_lays_L19 {X : JX} {a : Nat} {ad : Nat → Nat} {cI cZ cO cJ : ClassId} {n : Nat} {post : Option Value → va_W → Prop} (hX : jOK X cX7_lays 3 wsX7_lays RX7 rmX7_lays) (hT : jT X = jTy cI cZ cO cJ) (hGX : jG X jG0) (hret : jRV X cX7_lays rmX7_lays post) {o : (Int32 × MW)} (hex : ∀ (x1 : Int32) (w9 : MW), o = (x1, w9) → JW X 0 0 (mW a ad cI cZ w9) 50 [(0, .ref a), (1, .int x1)] [])  : ∀ (k : Nat) (w : MW) (v1 v2 : Int32), fX7_lays_L19 n k w v1 v2 = some o → JW X 0 0 (mW a ad cI cZ w) 19 [(0, .ref a), (1, .int v1), (2, .int v2)] [] := by
  intro k
  induction k with
  | zero => intro w v1 v2 h; cases h
  | succ k hrec0 =>
    intro w v1 v2 h
    have hrec := hrec0
    unfold fX7_lays_L19 at h
    refine jw_iload_n hX dX7_lays_19 rfl 2 rfl ?_
    refine jw_aload_n hX dX7_lays_20 rfl 0 rfl ?_
    refine jw_mgetI hX hT inX7_lays 1 (by decide) lkX7_lays_133 rfl dX7_lays_21 ?_
    refine jw_icmp_ge (tgt := 50) hX dX7_lays_24 (by decide) (fun hc => ?_) (fun hc => ?_)
    · rw [if_pos hc] at h
      refine jw_sub [0, 1] [(0, .ref a), (1, .int v1)] rfl ?_
      exact hex _ _ (Option.some.inj h).symm
    · rw [if_neg hc] at h
      refine jw_aload_n hX dX7_lays_27 rfl 0 rfl ?_
      refine jw_mgetA hX hT inX7_lays 6 (by decide) lkX7_lays_20 rfl dX7_lays_28 ?_
      refine jw_bipush (v := (60 : Int32)) hX dX7_lays_31 (by decide) ?_
      refine jw_iload_n hX dX7_lays_33 rfl 1 rfl ?_
      refine jw_imul hX dX7_lays_34 ?_
      refine jw_iload_n hX dX7_lays_35 rfl 2 rfl ?_
      refine jw_iadd hX dX7_lays_36 ?_
      refine jw_aload_n hX dX7_lays_37 rfl 0 rfl ?_
      refine jw_mgetA hX hT inX7_lays 2 (by decide) lkX7_lays_7 rfl dX7_lays_38 ?_
      refine jw_iload_n hX dX7_lays_41 rfl 2 rfl ?_
      obtain ⟨hb42, h⟩ := chk_some h
      refine jw_miald hX hT 0 2 rfl rfl hb42 dX7_lays_42 ?_
      obtain ⟨hb43, h⟩ := chk_some h
      refine jw_miast hX hT 3 6 rfl rfl hb43 dX7_lays_43 (fun w43 e43 => ?_)
      replace h := bnd_some h w43 e43
      clear e43
      refine jw_iinc (v := (v2 + (1 : Int32))) hX [(2, .int (v2 + (1 : Int32))), (0, .ref a), (1, .int v1)] dX7_lays_44 2 rfl (by first | rfl | (congr 1; decide)) (by decide) rfl ?_
      refine jw_goto (tgt := 19) hX dX7_lays_47 (by decide) ?_
      refine jw_sub [1, 2, 0] [(0, .ref a), (1, .int v1), (2, .int (v2 + (1 : Int32)))] rfl ?_
      exact hrec _ _ _ h
set_option maxRecDepth 100000 in
set_option maxHeartbeats 4000000 in
theorem sX7_lays_L62 {X : JX} {a : Nat} {ad : Nat → Nat} {cI cZ cO cJ : ClassId} {n : Nat} {post : Option Value → va_W → Prop} (hX : jOK X cX7_lays 3 wsX7_lays RX7 rmX7_lays) (hT : jT X = jTy cI cZ cO cJ) (hGX : jG X jG0) (hret : jRV X cX7_lays rmX7_lays post) {o : (Int32 × MW)} (hex : ∀ (x1 : Int32) (w9 : MW), o = (x1, w9) → JW X 0 0 (mW a ad cI cZ w9) 93 [(0, .ref a), (1, .int x1)] [])  : ∀ (k : Nat) (w : MW) (v1 v2 : Int32), fX7_lays_L62 n k w v1 v2 = some o → JW X 0 0 (mW a ad cI cZ w) 62 [(0, .ref a), (1, .int v1), (2, .int v2)] [] := by
  intro k
  induction k with
  | zero => intro w v1 v2 h; cases h
  | succ k hrec0 =>
    intro w v1 v2 h
    have hrec := hrec0
    unfold fX7_lays_L62 at h
    refine jw_iload_n hX dX7_lays_62 rfl 2 rfl ?_
    refine jw_aload_n hX dX7_lays_63 rfl 0 rfl ?_
    refine jw_mgetI hX hT inX7_lays 45 (by decide) lkX7_lays_176 rfl dX7_lays_64 ?_
    refine jw_icmp_ge (tgt := 93) hX dX7_lays_67 (by decide) (fun hc => ?_) (fun hc => ?_)
    · rw [if_pos hc] at h
      refine jw_sub [0, 1] [(0, .ref a), (1, .int v1)] rfl ?_
      exact hex _ _ (Option.some.inj h).symm
    · rw [if_neg hc] at h
      refine jw_aload_n hX dX7_lays_70 rfl 0 rfl ?_
      refine jw_mgetA hX hT inX7_lays 8 (by decide) lkX7_lays_26 rfl dX7_lays_71 ?_
      refine jw_bipush (v := (60 : Int32)) hX dX7_lays_74 (by decide) ?_
      refine jw_iload_n hX dX7_lays_76 rfl 1 rfl ?_
      refine jw_imul hX dX7_lays_77 ?_
      refine jw_iload_n hX dX7_lays_78 rfl 2 rfl ?_
      refine jw_iadd hX dX7_lays_79 ?_
      refine jw_aload_n hX dX7_lays_80 rfl 0 rfl ?_
      refine jw_mgetA hX hT inX7_lays 46 (by decide) lkX7_lays_119 rfl dX7_lays_81 ?_
      refine jw_iload_n hX dX7_lays_84 rfl 2 rfl ?_
      obtain ⟨hb85, h⟩ := chk_some h
      refine jw_miald hX hT 36 46 rfl rfl hb85 dX7_lays_85 ?_
      obtain ⟨hb86, h⟩ := chk_some h
      refine jw_miast hX hT 5 8 rfl rfl hb86 dX7_lays_86 (fun w86 e86 => ?_)
      replace h := bnd_some h w86 e86
      clear e86
      refine jw_iinc (v := (v2 + (1 : Int32))) hX [(2, .int (v2 + (1 : Int32))), (0, .ref a), (1, .int v1)] dX7_lays_87 2 rfl (by first | rfl | (congr 1; decide)) (by decide) rfl ?_
      refine jw_goto (tgt := 62) hX dX7_lays_90 (by decide) ?_
      refine jw_sub [1, 2, 0] [(0, .ref a), (1, .int v1), (2, .int (v2 + (1 : Int32)))] rfl ?_
      exact hrec _ _ _ h
set_option maxRecDepth 100000 in
set_option maxHeartbeats 4000000 in
theorem sX7_lays_L105 {X : JX} {a : Nat} {ad : Nat → Nat} {cI cZ cO cJ : ClassId} {n : Nat} {post : Option Value → va_W → Prop} (hX : jOK X cX7_lays 3 wsX7_lays RX7 rmX7_lays) (hT : jT X = jTy cI cZ cO cJ) (hGX : jG X jG0) (hret : jRV X cX7_lays rmX7_lays post) {o : (MW)} (hex : ∀ (w9 : MW), o = w9 → JW X 0 0 (mW a ad cI cZ w9) 187 [(0, .ref a)] [])  : ∀ (k : Nat) (w : MW) (v1 v2 : Int32), fX7_lays_L105 n k w v1 v2 = some o → JW X 0 0 (mW a ad cI cZ w) 105 [(0, .ref a), (1, .int v1), (2, .int v2)] [] := by
  intro k
  induction k with
  | zero => intro w v1 v2 h; cases h
  | succ k hrec0 =>
    intro w v1 v2 h
    have hrec := hrec0
    unfold fX7_lays_L105 at h
    refine jw_iload_n hX dX7_lays_105 rfl 2 rfl ?_
    refine jw_aload_n hX dX7_lays_106 rfl 0 rfl ?_
    refine jw_mgetI hX hT inX7_lays 26 (by decide) lkX7_lays_167 rfl dX7_lays_107 ?_
    refine jw_icmp_ge (tgt := 187) hX dX7_lays_110 (by decide) (fun hc => ?_) (fun hc => ?_)
    · rw [if_pos hc] at h
      refine jw_sub [0] [(0, .ref a)] rfl ?_
      exact hex _ (Option.some.inj h).symm
    · rw [if_neg hc] at h
      refine jw_aload_n hX dX7_lays_113 rfl 0 rfl ?_
      refine jw_mgetA hX hT inX7_lays 10 (by decide) lkX7_lays_32 rfl dX7_lays_114 ?_
      refine jw_bipush (v := (16 : Int32)) hX dX7_lays_117 (by decide) ?_
      refine jw_iload_n hX dX7_lays_119 rfl 1 rfl ?_
      refine jw_imul hX dX7_lays_120 ?_
      refine jw_iload_n hX dX7_lays_121 rfl 2 rfl ?_
      refine jw_iadd hX dX7_lays_122 ?_
      refine jw_aload_n hX dX7_lays_123 rfl 0 rfl ?_
      refine jw_mgetA hX hT inX7_lays 27 (by decide) lkX7_lays_74 rfl dX7_lays_124 ?_
      refine jw_iload_n hX dX7_lays_127 rfl 2 rfl ?_
      obtain ⟨hb128, h⟩ := chk_some h
      refine jw_miald hX hT 21 27 rfl rfl hb128 dX7_lays_128 ?_
      obtain ⟨hb129, h⟩ := chk_some h
      refine jw_miast hX hT 7 10 rfl rfl hb129 dX7_lays_129 (fun w129 e129 => ?_)
      replace h := bnd_some h w129 e129
      clear e129
      refine jw_aload_n hX dX7_lays_130 rfl 0 rfl ?_
      refine jw_mgetA hX hT inX7_lays 11 (by decide) lkX7_lays_35 rfl dX7_lays_131 ?_
      refine jw_bipush (v := (16 : Int32)) hX dX7_lays_134 (by decide) ?_
      refine jw_iload_n hX dX7_lays_136 rfl 1 rfl ?_
      refine jw_imul hX dX7_lays_137 ?_
      refine jw_iload_n hX dX7_lays_138 rfl 2 rfl ?_
      refine jw_iadd hX dX7_lays_139 ?_
      refine jw_aload_n hX dX7_lays_140 rfl 0 rfl ?_
      refine jw_mgetA hX hT inX7_lays 28 (by decide) lkX7_lays_77 rfl dX7_lays_141 ?_
      refine jw_iload_n hX dX7_lays_144 rfl 2 rfl ?_
      obtain ⟨hb145, h⟩ := chk_some h
      refine jw_mzald hX hT 22 28 rfl rfl hb145 dX7_lays_145 ?_
      obtain ⟨hb146, h⟩ := chk_some h
      obtain ⟨hz146, h⟩ := chk_some h
      refine jw_mzast hX hT 8 11 rfl rfl hb146 hz146 dX7_lays_146 (fun w146 e146 => ?_)
      replace h := bnd_some h w146 e146
      clear e146
      refine jw_aload_n hX dX7_lays_147 rfl 0 rfl ?_
      refine jw_mgetA hX hT inX7_lays 12 (by decide) lkX7_lays_38 rfl dX7_lays_148 ?_
      refine jw_bipush (v := (16 : Int32)) hX dX7_lays_151 (by decide) ?_
      refine jw_iload_n hX dX7_lays_153 rfl 1 rfl ?_
      refine jw_imul hX dX7_lays_154 ?_
      refine jw_iload_n hX dX7_lays_155 rfl 2 rfl ?_
      refine jw_iadd hX dX7_lays_156 ?_
      refine jw_aload_n hX dX7_lays_157 rfl 0 rfl ?_
      refine jw_mgetA hX hT inX7_lays 29 (by decide) lkX7_lays_80 rfl dX7_lays_158 ?_
      refine jw_iload_n hX dX7_lays_161 rfl 2 rfl ?_
      obtain ⟨hb162, h⟩ := chk_some h
      refine jw_miald hX hT 23 29 rfl rfl hb162 dX7_lays_162 ?_
      obtain ⟨hb163, h⟩ := chk_some h
      refine jw_miast hX hT 9 12 rfl rfl hb163 dX7_lays_163 (fun w163 e163 => ?_)
      replace h := bnd_some h w163 e163
      clear e163
      refine jw_aload_n hX dX7_lays_164 rfl 0 rfl ?_
      refine jw_mgetA hX hT inX7_lays 13 (by decide) lkX7_lays_41 rfl dX7_lays_165 ?_
      refine jw_bipush (v := (16 : Int32)) hX dX7_lays_168 (by decide) ?_
      refine jw_iload_n hX dX7_lays_170 rfl 1 rfl ?_
      refine jw_imul hX dX7_lays_171 ?_
      refine jw_iload_n hX dX7_lays_172 rfl 2 rfl ?_
      refine jw_iadd hX dX7_lays_173 ?_
      refine jw_aload_n hX dX7_lays_174 rfl 0 rfl ?_
      refine jw_mgetA hX hT inX7_lays 30 (by decide) lkX7_lays_83 rfl dX7_lays_175 ?_
      refine jw_iload_n hX dX7_lays_178 rfl 2 rfl ?_
      obtain ⟨hb179, h⟩ := chk_some h
      refine jw_miald hX hT 24 30 rfl rfl hb179 dX7_lays_179 ?_
      obtain ⟨hb180, h⟩ := chk_some h
      refine jw_miast hX hT 10 13 rfl rfl hb180 dX7_lays_180 (fun w180 e180 => ?_)
      replace h := bnd_some h w180 e180
      clear e180
      refine jw_iinc (v := (v2 + (1 : Int32))) hX [(2, .int (v2 + (1 : Int32))), (0, .ref a), (1, .int v1)] dX7_lays_181 2 rfl (by first | rfl | (congr 1; decide)) (by decide) rfl ?_
      refine jw_goto (tgt := 105) hX dX7_lays_184 (by decide) ?_
      refine jw_sub [1, 2, 0] [(0, .ref a), (1, .int v1), (2, .int (v2 + (1 : Int32)))] rfl ?_
      exact hrec _ _ _ h
set_option maxRecDepth 100000 in
set_option maxHeartbeats 4000000 in
theorem sX7_lays {X : JX} {a : Nat} {ad : Nat → Nat} {cI cZ cO cJ : ClassId} {n : Nat} {post : Option Value → va_W → Prop} (hX : jOK X cX7_lays 3 wsX7_lays RX7 rmX7_lays) (hT : jT X = jTy cI cZ cO cJ) (hGX : jG X jG0) (hret : jRV X cX7_lays rmX7_lays post) {o : MW} (hro : ∀ w9 : MW, o = w9 → post none (mW a ad cI cZ w9)) {w : MW} {v1 : Int32} (h : fX7_lays n w v1 = some o) : JW X 0 0 (mW a ad cI cZ w) 0 [(0, .ref a), (1, .int v1)] [] := by
  unfold fX7_lays at h
  refine jw_aload_n hX dX7_lays_0 rfl 0 rfl ?_
  refine jw_mgetA hX hT inX7_lays 4 (by decide) lkX7_lays_13 rfl dX7_lays_1 ?_
  refine jw_iload_n hX dX7_lays_4 rfl 1 rfl ?_
  refine jw_iconst (v := (0 : Int32)) hX dX7_lays_5 (by decide) ?_
  obtain ⟨hb6, h⟩ := chk_some h
  obtain ⟨hz6, h⟩ := chk_some h
  refine jw_mzast hX hT 1 4 rfl rfl hb6 hz6 dX7_lays_6 (fun w6 e6 => ?_)
  replace h := bnd_some h w6 e6
  clear e6
  refine jw_aload_n hX dX7_lays_7 rfl 0 rfl ?_
  refine jw_mgetA hX hT inX7_lays 5 (by decide) lkX7_lays_17 rfl dX7_lays_8 ?_
  refine jw_iload_n hX dX7_lays_11 rfl 1 rfl ?_
  refine jw_aload_n hX dX7_lays_12 rfl 0 rfl ?_
  refine jw_mgetI hX hT inX7_lays 1 (by decide) lkX7_lays_133 rfl dX7_lays_13 ?_
  obtain ⟨hb16, h⟩ := chk_some h
  refine jw_miast hX hT 2 5 rfl rfl hb16 dX7_lays_16 (fun w16 e16 => ?_)
  replace h := bnd_some h w16 e16
  clear e16
  refine jw_iconst (v := (0 : Int32)) hX dX7_lays_17 (by decide) ?_
  refine jw_istore_n hX [(2, .int (0 : Int32)), (0, .ref a), (1, .int v1)] dX7_lays_18 rfl (by decide) rfl ?_
  refine jw_sub [1, 2, 0] [(0, .ref a), (1, .int v1), (2, .int (0 : Int32))] rfl ?_
  obtain ⟨x1_19, wx19, hl19, h⟩ := bL2_some h
  refine sX7_lays_L19 hX hT hGX hret (o := (x1_19, wx19)) (fun q0 q1 e9 => ?_) n _ _ _ hl19
  cases e9
  refine jw_aload_n hX dX7_lays_50 rfl 0 rfl ?_
  refine jw_mgetA hX hT inX7_lays 7 (by decide) lkX7_lays_23 rfl dX7_lays_51 ?_
  refine jw_iload_n hX dX7_lays_54 rfl 1 rfl ?_
  refine jw_aload_n hX dX7_lays_55 rfl 0 rfl ?_
  refine jw_mgetI hX hT inX7_lays 45 (by decide) lkX7_lays_176 rfl dX7_lays_56 ?_
  obtain ⟨hb59, h⟩ := chk_some h
  refine jw_miast hX hT 4 7 rfl rfl hb59 dX7_lays_59 (fun w59 e59 => ?_)
  replace h := bnd_some h w59 e59
  clear e59
  refine jw_iconst (v := (0 : Int32)) hX dX7_lays_60 (by decide) ?_
  refine jw_istore_n hX [(2, .int (0 : Int32)), (0, .ref a), (1, .int x1_19)] dX7_lays_61 rfl (by decide) rfl ?_
  refine jw_sub [1, 2, 0] [(0, .ref a), (1, .int x1_19), (2, .int (0 : Int32))] rfl ?_
  obtain ⟨x1_62, wx62, hl62, h⟩ := bL2_some h
  refine sX7_lays_L62 hX hT hGX hret (o := (x1_62, wx62)) (fun q0 q1 e9 => ?_) n _ _ _ hl62
  cases e9
  refine jw_aload_n hX dX7_lays_93 rfl 0 rfl ?_
  refine jw_mgetA hX hT inX7_lays 9 (by decide) lkX7_lays_29 rfl dX7_lays_94 ?_
  refine jw_iload_n hX dX7_lays_97 rfl 1 rfl ?_
  refine jw_aload_n hX dX7_lays_98 rfl 0 rfl ?_
  refine jw_mgetI hX hT inX7_lays 26 (by decide) lkX7_lays_167 rfl dX7_lays_99 ?_
  obtain ⟨hb102, h⟩ := chk_some h
  refine jw_miast hX hT 6 9 rfl rfl hb102 dX7_lays_102 (fun w102 e102 => ?_)
  replace h := bnd_some h w102 e102
  clear e102
  refine jw_iconst (v := (0 : Int32)) hX dX7_lays_103 (by decide) ?_
  refine jw_istore_n hX [(2, .int (0 : Int32)), (0, .ref a), (1, .int x1_62)] dX7_lays_104 rfl (by decide) rfl ?_
  refine jw_sub [1, 2, 0] [(0, .ref a), (1, .int x1_62), (2, .int (0 : Int32))] rfl ?_
  obtain ⟨wx105, hl105, h⟩ := bL1_some h
  refine sX7_lays_L105 hX hT hGX hret (o := wx105) (fun q0 e9 => ?_) n _ _ _ hl105
  cases e9
  refine jw_aload_n hX dX7_lays_187 rfl 0 rfl ?_
  refine jw_iconst (v := (0 : Int32)) hX dX7_lays_188 (by decide) ?_
  refine jw_mputI hX hT inX7_lays 1 (by decide) lkX7_lays_133 rfl dX7_lays_189 (fun w189 e189 => ?_)
  replace h := bnd_some h w189 e189
  clear e189
  exact hret _ _ _ _ _ (Nat.zero_le _) (Nat.zero_le _) dX7_lays_192 (hro _ (Option.some.inj h).symm)
set_option maxRecDepth 100000 in
set_option maxHeartbeats 4000000 in
theorem kX7_lays {l : Launch} {D : va_G} {tys : List (ClassId × FieldType)} {a : Nat} {ad : Nat → Nat} {cI cZ cO cJ : ClassId} {n : Nat} {w : MW} {v1 : Int32} {w1 : MW} (hT : tys = jTy cI cZ cO cJ) (h : fX7_lays n w v1 = some w1) : CC l jG0 D tys yX7_lays wsX7_lays rmX7_lays [.ref a, .int v1] (mW a ad cI cZ w) (fun ov w2 => ov = none ∧ w2 = (mW a ad cI cZ w1)) := by
  refine CC_of (cc := cX7_lays) (maxL := 3) (ret := none) (by decide) rfl (by decide) ?_
  intro X hD hL hT0 hGX hX rI rZ rV rA
  exact sX7_lays hX (hT0.trans hT) hGX (fun cells slots w9 pc lv => rV cells slots w9 pc lv rfl) (o := w1) (fun w9 e9 => by cases e9; exact ⟨rfl, rfl⟩) h
/-! X7_proves -/
abbrev rmX7_proves : Room := { frames := 0, cells := 0, slots := 0, locals := 0 }
theorem hdX7_proves : yX7_proves.cls = RX7 ∧ yX7_proves.cls ≠ "java/lang/invoke/MethodHandle" ∧ yX7_proves.cls ≠ "java/lang/invoke/VarHandle" ∧ (parseMethodDescriptor yX7_proves.desc).map (fun d => d.parameters.length) = some 0 := by decide +kernel
theorem inX7_proves : ∀ w ∈ wsX70, w ∈ wsX7_proves := fun _ h => List.mem_cons_of_mem _ (List.mem_append_right _ h)
theorem lkX7_proves_126 : Cond.fieldLink RX7 126 "PostlintModel" (TX7 3).2.1 (TX7 3).2.2.1 ∈ wsX7_proves := by decide +kernel
theorem lkX7_proves_23 : Cond.fieldLink RX7 23 "PostlintModel" (TX7 7).2.1 (TX7 7).2.2.1 ∈ wsX7_proves := by decide +kernel
theorem lkX7_proves_26 : Cond.fieldLink RX7 26 "PostlintModel" (TX7 8).2.1 (TX7 8).2.2.1 ∈ wsX7_proves := by decide +kernel
theorem lkX7_proves_44 : Cond.fieldLink RX7 44 "PostlintModel" (TX7 14).2.1 (TX7 14).2.2.1 ∈ wsX7_proves := by decide +kernel
def fX7_proves_L32 (n : Nat) : Nat → MW → Int32 → Int32 → Int32 → Option (Int32 × Int32)
  | 0, _, _, _, _ => none
  | k + 1, w, v1, v2, v3 => chk (inB v1 (mLen 7)) ((if (w.2 7 (v1).toNatClampNeg) ≤ v3 then some (v1, v2) else chk (inB (((60 : Int32) * v1) + v3) (mLen 8)) (bnd ((((31 : Int32) * v2) + (w.2 8 ((((60 : Int32) * v1) + v3)).toNatClampNeg))) (fun y58 => fX7_proves_L32 n k w v1 y58 ((v3 + (1 : Int32)))))))
def fX7_proves_J26 (n : Nat) (rec : MW → Int32 → Option (MW)) (w : MW) (v1 t0 : Int32) : Option (MW) := bnd ((t0 + (17 : Int32))) (fun y29 => bL2 (fX7_proves_L32 n n w v1 y29 (0 : Int32)) (fun x1_32 x2_32 => chk (inB x1_32 (mLen 14)) (bnd (mA w 14 (x1_32).toNatClampNeg x2_32) (fun w71 => rec w71 ((x1_32 + (1 : Int32)))))))
def fX7_proves_L2 (n : Nat) : Nat → MW → Int32 → Option (MW)
  | 0, _, _ => none
  | k + 1, w, v1 => (if (w.1 3) ≤ v1 then some (w) else (if ¬ v1 = 0 then chk (inB (v1 - (1 : Int32)) (mLen 14)) (fX7_proves_J26 n (fX7_proves_L2 n k) w v1 (w.2 14 ((v1 - (1 : Int32))).toNatClampNeg)) else fX7_proves_J26 n (fX7_proves_L2 n k) w v1 (0 : Int32)))
def fX7_proves (n : Nat) (w : MW) : Option MW := bL1 (fX7_proves_L2 n n w (0 : Int32)) (fun wx2 => some wx2)
set_option maxRecDepth 100000 in
set_option maxHeartbeats 4000000 in
theorem sX7_proves_L32 {X : JX} {a : Nat} {ad : Nat → Nat} {cI cZ cO cJ : ClassId} {n : Nat} {post : Option Value → va_W → Prop} (hX : jOK X cX7_proves 4 wsX7_proves RX7 rmX7_proves) (hT : jT X = jTy cI cZ cO cJ) (hGX : jG X jG0) (hret : jRV X cX7_proves rmX7_proves post) {o : (Int32 × Int32)} (hex : ∀ (x1 x2 : Int32), o = (x1, x2) → JW X 0 0 (mW a ad cI cZ w) 65 [(0, .ref a), (1, .int x1), (2, .int x2)] [])  : ∀ (k : Nat) (w : MW) (v1 v2 v3 : Int32), fX7_proves_L32 n k w v1 v2 v3 = some o → JW X 0 0 (mW a ad cI cZ w) 32 [(0, .ref a), (1, .int v1), (2, .int v2), (3, .int v3)] [] := by
  intro k
  induction k with
  | zero => intro w v1 v2 v3 h; cases h
  | succ k hrec0 =>
    intro w v1 v2 v3 h
    have hrec := hrec0
    unfold fX7_proves_L32 at h
    refine jw_iload_n hX dX7_proves_32 rfl 3 rfl ?_
    refine jw_aload_n hX dX7_proves_33 rfl 0 rfl ?_
    refine jw_mgetA hX hT inX7_proves 7 (by decide) lkX7_proves_23 rfl dX7_proves_34 ?_
    refine jw_iload_n hX dX7_proves_37 rfl 1 rfl ?_
    obtain ⟨hb38, h⟩ := chk_some h
    refine jw_miald hX hT 4 7 rfl rfl hb38 dX7_proves_38 ?_
    refine jw_icmp_ge (tgt := 65) hX dX7_proves_39 (by decide) (fun hc => ?_) (fun hc => ?_)
    · rw [if_pos hc] at h
      refine jw_sub [0, 1, 2] [(0, .ref a), (1, .int v1), (2, .int v2)] rfl ?_
      exact hex _ _ (Option.some.inj h).symm
    · rw [if_neg hc] at h
      refine jw_bipush (v := (31 : Int32)) hX dX7_proves_42 (by decide) ?_
      refine jw_iload_n hX dX7_proves_44 rfl 2 rfl ?_
      refine jw_imul hX dX7_proves_45 ?_
      refine jw_aload_n hX dX7_proves_46 rfl 0 rfl ?_
      refine jw_mgetA hX hT inX7_proves 8 (by decide) lkX7_proves_26 rfl dX7_proves_47 ?_
      refine jw_bipush (v := (60 : Int32)) hX dX7_proves_50 (by decide) ?_
      refine jw_iload_n hX dX7_proves_52 rfl 1 rfl ?_
      refine jw_imul hX dX7_proves_53 ?_
      refine jw_iload_n hX dX7_proves_54 rfl 3 rfl ?_
      refine jw_iadd hX dX7_proves_55 ?_
      obtain ⟨hb56, h⟩ := chk_some h
      refine jw_miald hX hT 5 8 rfl rfl hb56 dX7_proves_56 ?_
      refine jw_iadd hX dX7_proves_57 ?_
      refine jw_topi (fun y58 e58 => ?_)
      replace h := bnd_some h y58 e58
      clear e58
      refine jw_istore_n hX [(2, .int y58), (0, .ref a), (1, .int v1), (3, .int v3)] dX7_proves_58 rfl (by decide) rfl ?_
      refine jw_iinc (v := (v3 + (1 : Int32))) hX [(3, .int (v3 + (1 : Int32))), (2, .int y58), (0, .ref a), (1, .int v1)] dX7_proves_59 3 rfl (by first | rfl | (congr 1; decide)) (by decide) rfl ?_
      refine jw_goto (tgt := 32) hX dX7_proves_62 (by decide) ?_
      refine jw_sub [2, 3, 1, 0] [(0, .ref a), (1, .int v1), (2, .int y58), (3, .int (v3 + (1 : Int32)))] rfl ?_
      exact hrec _ _ _ _ h
set_option maxRecDepth 100000 in
set_option maxHeartbeats 4000000 in
theorem sX7_proves_J26 {X : JX} {a : Nat} {ad : Nat → Nat} {cI cZ cO cJ : ClassId} {n : Nat} {post : Option Value → va_W → Prop} (hX : jOK X cX7_proves 4 wsX7_proves RX7 rmX7_proves) (hT : jT X = jTy cI cZ cO cJ) (hGX : jG X jG0) (hret : jRV X cX7_proves rmX7_proves post) {o : (MW)} {rec : MW → Int32 → Option (MW)} (hrec : ∀ (w : MW) (v1 : Int32), rec w v1 = some o → JW X 0 0 (mW a ad cI cZ w) 2 [(0, .ref a), (1, .int v1)] [])  (hex : ∀ (w9 : MW), o = w9 → JW X 0 0 (mW a ad cI cZ w9) 78 [] [])  {w : MW} {v1 t0 : Int32} (h : fX7_proves_J26 n rec w v1 t0 = some o) : JW X 0 0 (mW a ad cI cZ w) 26 [(0, .ref a), (1, .int v1)] [.int t0] := by
  unfold fX7_proves_J26 at h
  refine jw_bipush (v := (17 : Int32)) hX dX7_proves_26 (by decide) ?_
  refine jw_iadd hX dX7_proves_28 ?_
  refine jw_topi (fun y29 e29 => ?_)
  replace h := bnd_some h y29 e29
  clear e29
  refine jw_istore_n hX [(2, .int y29), (0, .ref a), (1, .int v1)] dX7_proves_29 rfl (by decide) rfl ?_
  refine jw_iconst (v := (0 : Int32)) hX dX7_proves_30 (by decide) ?_
  refine jw_istore_n hX [(3, .int (0 : Int32)), (2, .int y29), (0, .ref a), (1, .int v1)] dX7_proves_31 rfl (by decide) rfl ?_
  refine jw_sub [2, 3, 1, 0] [(0, .ref a), (1, .int v1), (2, .int y29), (3, .int (0 : Int32))] rfl ?_
  obtain ⟨x1_32, x2_32, hl32, h⟩ := bL2_some h
  refine sX7_proves_L32 hX hT hGX hret (o := (x1_32, x2_32)) (fun q0 q1 e9 => ?_) n _ _ _ _ hl32
  cases e9
  refine jw_aload_n hX dX7_proves_65 rfl 0 rfl ?_
  refine jw_mgetA hX hT inX7_proves 14 (by decide) lkX7_proves_44 rfl dX7_proves_66 ?_
  refine jw_iload_n hX dX7_proves_69 rfl 1 rfl ?_
  refine jw_iload_n hX dX7_proves_70 rfl 2 rfl ?_
  obtain ⟨hb71, h⟩ := chk_some h
  refine jw_miast hX hT 11 14 rfl rfl hb71 dX7_proves_71 (fun w71 e71 => ?_)
  replace h := bnd_some h w71 e71
  clear e71
  refine jw_iinc (v := (x1_32 + (1 : Int32))) hX [(1, .int (x1_32 + (1 : Int32))), (0, .ref a), (2, .int x2_32)] dX7_proves_72 1 rfl (by first | rfl | (congr 1; decide)) (by decide) rfl ?_
  refine jw_goto (tgt := 2) hX dX7_proves_75 (by decide) ?_
  refine jw_sub [1, 0] [(0, .ref a), (1, .int (x1_32 + (1 : Int32)))] rfl ?_
  exact hrec _ _ h
set_option maxRecDepth 100000 in
set_option maxHeartbeats 4000000 in
theorem sX7_proves_L2 {X : JX} {a : Nat} {ad : Nat → Nat} {cI cZ cO cJ : ClassId} {n : Nat} {post : Option Value → va_W → Prop} (hX : jOK X cX7_proves 4 wsX7_proves RX7 rmX7_proves) (hT : jT X = jTy cI cZ cO cJ) (hGX : jG X jG0) (hret : jRV X cX7_proves rmX7_proves post) {o : (MW)} (hex : ∀ (w9 : MW), o = w9 → JW X 0 0 (mW a ad cI cZ w9) 78 [] [])  : ∀ (k : Nat) (w : MW) (v1 : Int32), fX7_proves_L2 n k w v1 = some o → JW X 0 0 (mW a ad cI cZ w) 2 [(0, .ref a), (1, .int v1)] [] := by
  intro k
  induction k with
  | zero => intro w v1 h; cases h
  | succ k hrec0 =>
    intro w v1 h
    have hrec := hrec0
    unfold fX7_proves_L2 at h
    refine jw_iload_n hX dX7_proves_2 rfl 1 rfl ?_
    refine jw_aload_n hX dX7_proves_3 rfl 0 rfl ?_
    refine jw_mgetI hX hT inX7_proves 3 (by decide) lkX7_proves_126 rfl dX7_proves_4 ?_
    refine jw_icmp_ge (tgt := 78) hX dX7_proves_7 (by decide) (fun hc => ?_) (fun hc => ?_)
    · rw [if_pos hc] at h
      refine jw_sub [] [] rfl ?_
      exact hex _ (Option.some.inj h).symm
    · rw [if_neg hc] at h
      refine jw_iload_n hX dX7_proves_10 rfl 1 rfl ?_
      refine jw_if_ne (tgt := 18) hX dX7_proves_11 (by decide) (fun hc => ?_) (fun hc => ?_)
      · rw [if_pos hc] at h
        refine jw_aload_n hX dX7_proves_18 rfl 0 rfl ?_
        refine jw_mgetA hX hT inX7_proves 14 (by decide) lkX7_proves_44 rfl dX7_proves_19 ?_
        refine jw_iload_n hX dX7_proves_22 rfl 1 rfl ?_
        refine jw_iconst (v := (1 : Int32)) hX dX7_proves_23 (by decide) ?_
        refine jw_isub hX dX7_proves_24 ?_
        obtain ⟨hb25, h⟩ := chk_some h
        refine jw_miald hX hT 11 14 rfl rfl hb25 dX7_proves_25 ?_
        exact sX7_proves_J26 hX hT hGX hret hrec hex h
      · rw [if_neg hc] at h
        refine jw_iconst (v := (0 : Int32)) hX dX7_proves_14 (by decide) ?_
        refine jw_goto (tgt := 26) hX dX7_proves_15 (by decide) ?_
        exact sX7_proves_J26 hX hT hGX hret hrec hex h
set_option maxRecDepth 100000 in
set_option maxHeartbeats 4000000 in
theorem sX7_proves {X : JX} {a : Nat} {ad : Nat → Nat} {cI cZ cO cJ : ClassId} {n : Nat} {post : Option Value → va_W → Prop} (hX : jOK X cX7_proves 4 wsX7_proves RX7 rmX7_proves) (hT : jT X = jTy cI cZ cO cJ) (hGX : jG X jG0) (hret : jRV X cX7_proves rmX7_proves post) {o : MW} (hro : ∀ w9 : MW, o = w9 → post none (mW a ad cI cZ w9)) {w : MW} (h : fX7_proves n w  = some o) : JW X 0 0 (mW a ad cI cZ w) 0 [(0, .ref a)] [] := by
  unfold fX7_proves at h
  refine jw_iconst (v := (0 : Int32)) hX dX7_proves_0 (by decide) ?_
  refine jw_istore_n hX [(1, .int (0 : Int32)), (0, .ref a)] dX7_proves_1 rfl (by decide) rfl ?_
  refine jw_sub [1, 0] [(0, .ref a), (1, .int (0 : Int32))] rfl ?_
  obtain ⟨wx2, hl2, h⟩ := bL1_some h
  refine sX7_proves_L2 hX hT hGX hret (o := wx2) (fun q0 e9 => ?_) n _ _ hl2
  cases e9
  exact hret _ _ _ _ _ (Nat.zero_le _) (Nat.zero_le _) dX7_proves_78 (hro _ (Option.some.inj h).symm)
set_option maxRecDepth 100000 in
set_option maxHeartbeats 4000000 in
theorem kX7_proves {l : Launch} {D : va_G} {tys : List (ClassId × FieldType)} {a : Nat} {ad : Nat → Nat} {cI cZ cO cJ : ClassId} {n : Nat} {w : MW}  {w1 : MW} (hT : tys = jTy cI cZ cO cJ) (h : fX7_proves n w  = some w1) : CC l jG0 D tys yX7_proves wsX7_proves rmX7_proves [.ref a] (mW a ad cI cZ w) (fun ov w2 => ov = none ∧ w2 = (mW a ad cI cZ w1)) := by
  refine CC_of (cc := cX7_proves) (maxL := 4) (ret := none) (by decide) rfl (by decide) ?_
  intro X hD hL hT0 hGX hX rI rZ rV rA
  exact sX7_proves hX (hT0.trans hT) hGX (fun cells slots w9 pc lv => rV cells slots w9 pc lv rfl) (o := w1) (fun w9 e9 => by cases e9; exact ⟨rfl, rfl⟩) h
/-! X7_type -/
abbrev rmX7_type : Room := { frames := 1, cells := 0, slots := 0, locals := 22 }
theorem hdX7_type : yX7_type.cls = RX7 ∧ yX7_type.cls ≠ "java/lang/invoke/MethodHandle" ∧ yX7_type.cls ≠ "java/lang/invoke/VarHandle" ∧ (parseMethodDescriptor yX7_type.desc).map (fun d => d.parameters.length) = some 1 := by decide +kernel
theorem inX7_type : ∀ w ∈ wsX70, w ∈ wsX7_type := fun _ h => List.mem_cons_of_mem _ (List.mem_append_right _ h)
theorem lkX7_type_133 : Cond.fieldLink RX7 133 "PostlintModel" (TX7 1).2.1 (TX7 1).2.2.1 ∈ wsX7_type := by decide +kernel
theorem lkX7_type_7 : Cond.fieldLink RX7 7 "PostlintModel" (TX7 2).2.1 (TX7 2).2.2.1 ∈ wsX7_type := by decide +kernel
def fX7_type_J30 (w : MW) (v1 t0 : Int32) : Option (Int32 × MW) := b2 (fX7_isOf w t0) (fun r30 w30 => (if ¬ r30 = 0 then chk (inB (w30.1 1) (mLen 2)) (bnd (mA w30 2 ((w30.1 1)).toNatClampNeg v1) (fun w47 => bnd (mS w47 1 ((w47.1 1) + (1 : Int32))) (fun w55 => some ((w55.1 1), w55)))) else some ((0 : Int32), w30)))
def fX7_type (w : MW) (v1 : Int32) : Option (Int32 × MW) := bP (fX7_isIn v1 (32 : Int32) (126 : Int32)) (fun r6 => (if ¬ r6 = 0 then (if ¬ (w.1 1) = (60 : Int32) then fX7_type_J30 w v1 (0 : Int32) else fX7_type_J30 w v1 (2 : Int32)) else fX7_type_J30 w v1 (1 : Int32)))
set_option maxRecDepth 100000 in
set_option maxHeartbeats 4000000 in
theorem sX7_type_J30 {X : JX} {a : Nat} {ad : Nat → Nat} {cI cZ cO cJ : ClassId} {post : Option Value → va_W → Prop} (hX : jOK X cX7_type 2 wsX7_type RX7 rmX7_type) (hT : jT X = jTy cI cZ cO cJ) (hGX : jG X jG0) (hret : jRI X cX7_type rmX7_type post) {o : (Int32 × MW)}   (hro : ∀ (v9 : Int32) (w9 : MW), o = (v9, w9) → post (some (.int v9)) (mW a ad cI cZ w9)) {w : MW} {v1 t0 : Int32} (h : fX7_type_J30 w v1 t0 = some o) : JW X 0 0 (mW a ad cI cZ w) 30 [(0, .ref a), (1, .int v1)] [.int t0, .ref a] := by
  unfold fX7_type_J30 at h
  obtain ⟨r30, w30, hc30, h⟩ := b2_some h
  refine jw_cVi (As := [.int t0]) hX jG0_ok hGX 1 (kX7_isOf hT hc30) gX7_type_X7_isOf rfl hdX7_isOf ⟨by decide, by decide⟩ 0 7 rfl rfl rfl (by decide) dX7_type_30 rfl rfl ⟨by decide, by decide⟩ ?_
  refine jw_if_ne (tgt := 38) hX dX7_type_33 (by decide) (fun hc => ?_) (fun hc => ?_)
  · rw [if_pos hc] at h
    refine jw_aload_n hX dX7_type_38 rfl 0 rfl ?_
    refine jw_mgetA hX hT inX7_type 2 (by decide) lkX7_type_7 rfl dX7_type_39 ?_
    refine jw_aload_n hX dX7_type_42 rfl 0 rfl ?_
    refine jw_mgetI hX hT inX7_type 1 (by decide) lkX7_type_133 rfl dX7_type_43 ?_
    refine jw_iload_n hX dX7_type_46 rfl 1 rfl ?_
    obtain ⟨hb47, h⟩ := chk_some h
    refine jw_miast hX hT 0 2 rfl rfl hb47 dX7_type_47 (fun w47 e47 => ?_)
    replace h := bnd_some h w47 e47
    clear e47
    refine jw_aload_n hX dX7_type_48 rfl 0 rfl ?_
    refine jw_dup hX dX7_type_49 rfl ?_
    refine jw_mgetI hX hT inX7_type 1 (by decide) lkX7_type_133 rfl dX7_type_50 ?_
    refine jw_iconst (v := (1 : Int32)) hX dX7_type_53 (by decide) ?_
    refine jw_iadd hX dX7_type_54 ?_
    refine jw_mputI hX hT inX7_type 1 (by decide) lkX7_type_133 rfl dX7_type_55 (fun w55 e55 => ?_)
    replace h := bnd_some h w55 e55
    clear e55
    refine jw_aload_n hX dX7_type_58 rfl 0 rfl ?_
    refine jw_mgetI hX hT inX7_type 1 (by decide) lkX7_type_133 rfl dX7_type_59 ?_
    exact hret _ _ _ _ _ _ (Nat.zero_le _) (Nat.zero_le _) dX7_type_62 (hro _ _ (Option.some.inj h).symm)
  · rw [if_neg hc] at h
    refine jw_iconst (v := (0 : Int32)) hX dX7_type_36 (by decide) ?_
    exact hret _ _ _ _ _ _ (Nat.zero_le _) (Nat.zero_le _) dX7_type_37 (hro _ _ (Option.some.inj h).symm)
set_option maxRecDepth 100000 in
set_option maxHeartbeats 4000000 in
theorem sX7_type {X : JX} {a : Nat} {ad : Nat → Nat} {cI cZ cO cJ : ClassId} {post : Option Value → va_W → Prop} (hX : jOK X cX7_type 2 wsX7_type RX7 rmX7_type) (hT : jT X = jTy cI cZ cO cJ) (hGX : jG X jG0) (hret : jRI X cX7_type rmX7_type post) {o : (Int32 × MW)} (hro : ∀ (v9 : Int32) (w9 : MW), o = (v9, w9) → post (some (.int v9)) (mW a ad cI cZ w9)) {w : MW} {v1 : Int32} (h : fX7_type w v1 = some o) : JW X 0 0 (mW a ad cI cZ w) 0 [(0, .ref a), (1, .int v1)] [] := by
  unfold fX7_type at h
  refine jw_aload_n hX dX7_type_0 rfl 0 rfl ?_
  refine jw_iload_n hX dX7_type_1 rfl 1 rfl ?_
  refine jw_bipush (v := (32 : Int32)) hX dX7_type_2 (by decide) ?_
  refine jw_bipush (v := (126 : Int32)) hX dX7_type_4 (by decide) ?_
  obtain ⟨r6, hc6, h⟩ := bP_some h
  refine jw_cSi (As := [.int v1, .int (32 : Int32), .int (126 : Int32)]) hX jG0_ok hGX 3 (kX7_isIn hT hc6) gX7_type_X7_isIn rfl hdX7_isIn ⟨by decide, by decide⟩ rfl (by decide) dX7_type_6 rfl rfl ⟨by decide, by decide⟩ ?_
  refine jw_if_ne (tgt := 16) hX dX7_type_9 (by decide) (fun hc => ?_) (fun hc => ?_)
  · rw [if_pos hc] at h
    refine jw_aload_n hX dX7_type_16 rfl 0 rfl ?_
    refine jw_mgetI hX hT inX7_type 1 (by decide) lkX7_type_133 rfl dX7_type_17 ?_
    refine jw_bipush (v := (60 : Int32)) hX dX7_type_20 (by decide) ?_
    refine jw_icmp_ne (tgt := 29) hX dX7_type_22 (by decide) (fun hc => ?_) (fun hc => ?_)
    · rw [if_pos hc] at h
      refine jw_iconst (v := (0 : Int32)) hX dX7_type_29 (by decide) ?_
      exact sX7_type_J30 hX hT hGX hret hro h
    · rw [if_neg hc] at h
      refine jw_iconst (v := (2 : Int32)) hX dX7_type_25 (by decide) ?_
      refine jw_goto (tgt := 30) hX dX7_type_26 (by decide) ?_
      exact sX7_type_J30 hX hT hGX hret hro h
  · rw [if_neg hc] at h
    refine jw_iconst (v := (1 : Int32)) hX dX7_type_12 (by decide) ?_
    refine jw_goto (tgt := 30) hX dX7_type_13 (by decide) ?_
    exact sX7_type_J30 hX hT hGX hret hro h
set_option maxRecDepth 100000 in
set_option maxHeartbeats 4000000 in
theorem kX7_type {l : Launch} {D : va_G} {tys : List (ClassId × FieldType)} {a : Nat} {ad : Nat → Nat} {cI cZ cO cJ : ClassId} {w : MW} {v1 : Int32} {r : Int32} {w1 : MW} (hT : tys = jTy cI cZ cO cJ) (h : fX7_type w v1 = some (r, w1)) : CC l jG0 D tys yX7_type wsX7_type rmX7_type [.ref a, .int v1] (mW a ad cI cZ w) (fun ov w2 => ov = some (.int r) ∧ w2 = (mW a ad cI cZ w1)) := by
  refine CC_of (cc := cX7_type) (maxL := 2) (ret := (some .int)) (by decide) rfl (by decide) ?_
  intro X hD hL hT0 hGX hX rI rZ rV rA
  exact sX7_type hX (hT0.trans hT) hGX (fun cells slots w9 pc lv v => rI cells slots w9 pc lv v rfl) (o := (r, w1)) (fun v9 w9 e9 => by cases e9; exact ⟨rfl, rfl⟩) h
/-! X7_clear -/
abbrev rmX7_clear : Room := { frames := 0, cells := 0, slots := 0, locals := 0 }
theorem hdX7_clear : yX7_clear.cls = RX7 ∧ yX7_clear.cls ≠ "java/lang/invoke/MethodHandle" ∧ yX7_clear.cls ≠ "java/lang/invoke/VarHandle" ∧ (parseMethodDescriptor yX7_clear.desc).map (fun d => d.parameters.length) = some 0 := by decide +kernel
theorem inX7_clear : ∀ w ∈ wsX70, w ∈ wsX7_clear := fun _ h => List.mem_cons_of_mem _ (List.mem_append_right _ h)
theorem lkX7_clear_122 : Cond.fieldLink RX7 122 "PostlintModel" (TX7 0).2.1 (TX7 0).2.2.1 ∈ wsX7_clear := by decide +kernel
theorem lkX7_clear_133 : Cond.fieldLink RX7 133 "PostlintModel" (TX7 1).2.1 (TX7 1).2.2.1 ∈ wsX7_clear := by decide +kernel
def fX7_clear (w : MW) : Option (Int32 × MW) := bnd (mS w 0 (0 : Int32)) (fun w2 => bnd ((w2.1 1)) (fun y9 => bnd (mS w2 1 (0 : Int32)) (fun w12 => some (y9, w12))))
set_option maxRecDepth 100000 in
set_option maxHeartbeats 4000000 in
theorem sX7_clear {X : JX} {a : Nat} {ad : Nat → Nat} {cI cZ cO cJ : ClassId} {post : Option Value → va_W → Prop} (hX : jOK X cX7_clear 2 wsX7_clear RX7 rmX7_clear) (hT : jT X = jTy cI cZ cO cJ) (hGX : jG X jG0) (hret : jRI X cX7_clear rmX7_clear post) {o : (Int32 × MW)} (hro : ∀ (v9 : Int32) (w9 : MW), o = (v9, w9) → post (some (.int v9)) (mW a ad cI cZ w9)) {w : MW} (h : fX7_clear w  = some o) : JW X 0 0 (mW a ad cI cZ w) 0 [(0, .ref a)] [] := by
  unfold fX7_clear at h
  refine jw_aload_n hX dX7_clear_0 rfl 0 rfl ?_
  refine jw_iconst (v := (0 : Int32)) hX dX7_clear_1 (by decide) ?_
  refine jw_mputI hX hT inX7_clear 0 (by decide) lkX7_clear_122 rfl dX7_clear_2 (fun w2 e2 => ?_)
  replace h := bnd_some h w2 e2
  clear e2
  refine jw_aload_n hX dX7_clear_5 rfl 0 rfl ?_
  refine jw_mgetI hX hT inX7_clear 1 (by decide) lkX7_clear_133 rfl dX7_clear_6 ?_
  refine jw_topi (fun y9 e9 => ?_)
  replace h := bnd_some h y9 e9
  clear e9
  refine jw_istore_n hX [(1, .int y9), (0, .ref a)] dX7_clear_9 rfl (by decide) rfl ?_
  refine jw_aload_n hX dX7_clear_10 rfl 1 rfl ?_
  refine jw_iconst (v := (0 : Int32)) hX dX7_clear_11 (by decide) ?_
  refine jw_mputI hX hT inX7_clear 1 (by decide) lkX7_clear_133 rfl dX7_clear_12 (fun w12 e12 => ?_)
  replace h := bnd_some h w12 e12
  clear e12
  refine jw_iload_n hX dX7_clear_15 rfl 0 rfl ?_
  exact hret _ _ _ _ _ _ (Nat.zero_le _) (Nat.zero_le _) dX7_clear_16 (hro _ _ (Option.some.inj h).symm)
set_option maxRecDepth 100000 in
set_option maxHeartbeats 4000000 in
theorem kX7_clear {l : Launch} {D : va_G} {tys : List (ClassId × FieldType)} {a : Nat} {ad : Nat → Nat} {cI cZ cO cJ : ClassId} {w : MW}  {r : Int32} {w1 : MW} (hT : tys = jTy cI cZ cO cJ) (h : fX7_clear w  = some (r, w1)) : CC l jG0 D tys yX7_clear wsX7_clear rmX7_clear [.ref a] (mW a ad cI cZ w) (fun ov w2 => ov = some (.int r) ∧ w2 = (mW a ad cI cZ w1)) := by
  refine CC_of (cc := cX7_clear) (maxL := 2) (ret := (some .int)) (by decide) rfl (by decide) ?_
  intro X hD hL hT0 hGX hX rI rZ rV rA
  exact sX7_clear hX (hT0.trans hT) hGX (fun cells slots w9 pc lv v => rI cells slots w9 pc lv v rfl) (o := (r, w1)) (fun v9 w9 e9 => by cases e9; exact ⟨rfl, rfl⟩) h
/-! X7_fault -/
abbrev rmX7_fault : Room := { frames := 3, cells := 0, slots := 0, locals := 73 }
theorem hdX7_fault : yX7_fault.cls = RX7 ∧ yX7_fault.cls ≠ "java/lang/invoke/MethodHandle" ∧ yX7_fault.cls ≠ "java/lang/invoke/VarHandle" ∧ (parseMethodDescriptor yX7_fault.desc).map (fun d => d.parameters.length) = some 0 := by decide +kernel
theorem inX7_fault : ∀ w ∈ wsX70, w ∈ wsX7_fault := fun _ h => List.mem_cons_of_mem _ (List.mem_append_right _ h)
theorem lkX7_fault_122 : Cond.fieldLink RX7 122 "PostlintModel" (TX7 0).2.1 (TX7 0).2.2.1 ∈ wsX7_fault := by decide +kernel
def fX7_fault (n : Nat) (w : MW) : Option (Int32 × MW) := bnd (mS w 0 (0 : Int32)) (fun w2 => bP (fX7_draftFault n w2 ) (fun r6 => some (r6, w2)))
set_option maxRecDepth 100000 in
set_option maxHeartbeats 4000000 in
theorem sX7_fault {X : JX} {a : Nat} {ad : Nat → Nat} {cI cZ cO cJ : ClassId} {n : Nat} {post : Option Value → va_W → Prop} (hX : jOK X cX7_fault 1 wsX7_fault RX7 rmX7_fault) (hT : jT X = jTy cI cZ cO cJ) (hGX : jG X jG0) (hret : jRI X cX7_fault rmX7_fault post) {o : (Int32 × MW)} (hro : ∀ (v9 : Int32) (w9 : MW), o = (v9, w9) → post (some (.int v9)) (mW a ad cI cZ w9)) {w : MW} (h : fX7_fault n w  = some o) : JW X 0 0 (mW a ad cI cZ w) 0 [(0, .ref a)] [] := by
  unfold fX7_fault at h
  refine jw_aload_n hX dX7_fault_0 rfl 0 rfl ?_
  refine jw_iconst (v := (0 : Int32)) hX dX7_fault_1 (by decide) ?_
  refine jw_mputI hX hT inX7_fault 0 (by decide) lkX7_fault_122 rfl dX7_fault_2 (fun w2 e2 => ?_)
  replace h := bnd_some h w2 e2
  clear e2
  refine jw_aload_n hX dX7_fault_5 rfl 0 rfl ?_
  obtain ⟨r6, hc6, h⟩ := bP_some h
  refine jw_cVi (As := []) hX jG0_ok hGX 0 (kX7_draftFault hT hc6) gX7_fault_X7_draftFault rfl hdX7_draftFault ⟨by decide, by decide⟩ 0 7 rfl rfl rfl (by decide) dX7_fault_6 rfl rfl ⟨by decide, by decide⟩ ?_
  exact hret _ _ _ _ _ _ (Nat.zero_le _) (Nat.zero_le _) dX7_fault_9 (hro _ _ (Option.some.inj h).symm)
set_option maxRecDepth 100000 in
set_option maxHeartbeats 4000000 in
theorem kX7_fault {l : Launch} {D : va_G} {tys : List (ClassId × FieldType)} {a : Nat} {ad : Nat → Nat} {cI cZ cO cJ : ClassId} {n : Nat} {w : MW}  {r : Int32} {w1 : MW} (hT : tys = jTy cI cZ cO cJ) (h : fX7_fault n w  = some (r, w1)) : CC l jG0 D tys yX7_fault wsX7_fault rmX7_fault [.ref a] (mW a ad cI cZ w) (fun ov w2 => ov = some (.int r) ∧ w2 = (mW a ad cI cZ w1)) := by
  refine CC_of (cc := cX7_fault) (maxL := 1) (ret := (some .int)) (by decide) rfl (by decide) ?_
  intro X hD hL hT0 hGX hX rI rZ rV rA
  exact sX7_fault hX (hT0.trans hT) hGX (fun cells slots w9 pc lv v => rI cells slots w9 pc lv v rfl) (o := (r, w1)) (fun v9 w9 e9 => by cases e9; exact ⟨rfl, rfl⟩) h
/-! X7_post -/
abbrev rmX7_post : Room := { frames := 5, cells := 0, slots := 0, locals := 119 }
theorem hdX7_post : yX7_post.cls = RX7 ∧ yX7_post.cls ≠ "java/lang/invoke/MethodHandle" ∧ yX7_post.cls ≠ "java/lang/invoke/VarHandle" ∧ (parseMethodDescriptor yX7_post.desc).map (fun d => d.parameters.length) = some 0 := by decide +kernel
theorem inX7_post : ∀ w ∈ wsX70, w ∈ wsX7_post := fun _ h => List.mem_cons_of_mem _ (List.mem_append_right _ h)
theorem lkX7_post_126 : Cond.fieldLink RX7 126 "PostlintModel" (TX7 3).2.1 (TX7 3).2.2.1 ∈ wsX7_post := by decide +kernel
def fX7_post_J22 (n : Nat) (w : MW) (t0 : Int32) : Option (Int32 × MW) := b2 (fX7_isOf w t0) (fun r22 w22 => (if ¬ r22 = 0 then bnd (mS w22 3 ((w22.1 3) + (1 : Int32))) (fun w37 => bP (fX7_lays n w37 ((w37.1 3) - (1 : Int32))) (fun w47 => bP (fX7_proves n w47 ) (fun w51 => some (((w51.1 3) - (1 : Int32)), w51)))) else some ((0 : Int32), w22)))
def fX7_post_J21 (n : Nat) (w : MW) : Option (Int32 × MW) := fX7_post_J22 n w (1 : Int32)
def fX7_post (n : Nat) (w : MW) : Option (Int32 × MW) := b2 (fX7_canBe n w ) (fun r2 w2 => (if r2 = 0 then fX7_post_J21 n w2  else (if (24 : Int32) ≤ (w2.1 3) then fX7_post_J21 n w2  else fX7_post_J22 n w2 (0 : Int32))))
set_option maxRecDepth 100000 in
set_option maxHeartbeats 4000000 in
theorem sX7_post_J22 {X : JX} {a : Nat} {ad : Nat → Nat} {cI cZ cO cJ : ClassId} {n : Nat} {post : Option Value → va_W → Prop} (hX : jOK X cX7_post 1 wsX7_post RX7 rmX7_post) (hT : jT X = jTy cI cZ cO cJ) (hGX : jG X jG0) (hret : jRI X cX7_post rmX7_post post) {o : (Int32 × MW)}   (hro : ∀ (v9 : Int32) (w9 : MW), o = (v9, w9) → post (some (.int v9)) (mW a ad cI cZ w9)) {w : MW} {t0 : Int32} (h : fX7_post_J22 n w t0 = some o) : JW X 0 0 (mW a ad cI cZ w) 22 [(0, .ref a)] [.int t0, .ref a] := by
  unfold fX7_post_J22 at h
  obtain ⟨r22, w22, hc22, h⟩ := b2_some h
  refine jw_cVi (As := [.int t0]) hX jG0_ok hGX 1 (kX7_isOf hT hc22) gX7_post_X7_isOf rfl hdX7_isOf ⟨by decide, by decide⟩ 0 7 rfl rfl rfl (by decide) dX7_post_22 rfl rfl ⟨by decide, by decide⟩ ?_
  refine jw_if_ne (tgt := 30) hX dX7_post_25 (by decide) (fun hc => ?_) (fun hc => ?_)
  · rw [if_pos hc] at h
    refine jw_aload_n hX dX7_post_30 rfl 0 rfl ?_
    refine jw_dup hX dX7_post_31 rfl ?_
    refine jw_mgetI hX hT inX7_post 3 (by decide) lkX7_post_126 rfl dX7_post_32 ?_
    refine jw_iconst (v := (1 : Int32)) hX dX7_post_35 (by decide) ?_
    refine jw_iadd hX dX7_post_36 ?_
    refine jw_mputI hX hT inX7_post 3 (by decide) lkX7_post_126 rfl dX7_post_37 (fun w37 e37 => ?_)
    replace h := bnd_some h w37 e37
    clear e37
    refine jw_aload_n hX dX7_post_40 rfl 0 rfl ?_
    refine jw_aload_n hX dX7_post_41 rfl 0 rfl ?_
    refine jw_mgetI hX hT inX7_post 3 (by decide) lkX7_post_126 rfl dX7_post_42 ?_
    refine jw_iconst (v := (1 : Int32)) hX dX7_post_45 (by decide) ?_
    refine jw_isub hX dX7_post_46 ?_
    obtain ⟨w47, hc47, h⟩ := bP_some h
    refine jw_cVv (As := [.int ((w37.1 3) - (1 : Int32))]) hX jG0_ok hGX 1 (kX7_lays hT hc47) gX7_post_X7_lays rfl hdX7_lays ⟨by decide, by decide⟩ 0 7 rfl rfl rfl (by decide) dX7_post_47 rfl rfl ⟨by decide, by decide⟩ ?_
    refine jw_aload_n hX dX7_post_50 rfl 0 rfl ?_
    obtain ⟨w51, hc51, h⟩ := bP_some h
    refine jw_cVv (As := []) hX jG0_ok hGX 0 (kX7_proves hT hc51) gX7_post_X7_proves rfl hdX7_proves ⟨by decide, by decide⟩ 0 7 rfl rfl rfl (by decide) dX7_post_51 rfl rfl ⟨by decide, by decide⟩ ?_
    refine jw_aload_n hX dX7_post_54 rfl 0 rfl ?_
    refine jw_mgetI hX hT inX7_post 3 (by decide) lkX7_post_126 rfl dX7_post_55 ?_
    refine jw_iconst (v := (1 : Int32)) hX dX7_post_58 (by decide) ?_
    refine jw_isub hX dX7_post_59 ?_
    exact hret _ _ _ _ _ _ (Nat.zero_le _) (Nat.zero_le _) dX7_post_60 (hro _ _ (Option.some.inj h).symm)
  · rw [if_neg hc] at h
    refine jw_iconst (v := (0 : Int32)) hX dX7_post_28 (by decide) ?_
    exact hret _ _ _ _ _ _ (Nat.zero_le _) (Nat.zero_le _) dX7_post_29 (hro _ _ (Option.some.inj h).symm)
set_option maxRecDepth 100000 in
set_option maxHeartbeats 4000000 in
theorem sX7_post_J21 {X : JX} {a : Nat} {ad : Nat → Nat} {cI cZ cO cJ : ClassId} {n : Nat} {post : Option Value → va_W → Prop} (hX : jOK X cX7_post 1 wsX7_post RX7 rmX7_post) (hT : jT X = jTy cI cZ cO cJ) (hGX : jG X jG0) (hret : jRI X cX7_post rmX7_post post) {o : (Int32 × MW)}   (hro : ∀ (v9 : Int32) (w9 : MW), o = (v9, w9) → post (some (.int v9)) (mW a ad cI cZ w9)) {w : MW} (h : fX7_post_J21 n w  = some o) : JW X 0 0 (mW a ad cI cZ w) 21 [(0, .ref a)] [.ref a] := by
  unfold fX7_post_J21 at h
  refine jw_iconst (v := (1 : Int32)) hX dX7_post_21 (by decide) ?_
  exact sX7_post_J22 hX hT hGX hret hro h
set_option maxRecDepth 100000 in
set_option maxHeartbeats 4000000 in
theorem sX7_post {X : JX} {a : Nat} {ad : Nat → Nat} {cI cZ cO cJ : ClassId} {n : Nat} {post : Option Value → va_W → Prop} (hX : jOK X cX7_post 1 wsX7_post RX7 rmX7_post) (hT : jT X = jTy cI cZ cO cJ) (hGX : jG X jG0) (hret : jRI X cX7_post rmX7_post post) {o : (Int32 × MW)} (hro : ∀ (v9 : Int32) (w9 : MW), o = (v9, w9) → post (some (.int v9)) (mW a ad cI cZ w9)) {w : MW} (h : fX7_post n w  = some o) : JW X 0 0 (mW a ad cI cZ w) 0 [(0, .ref a)] [] := by
  unfold fX7_post at h
  refine jw_aload_n hX dX7_post_0 rfl 0 rfl ?_
  refine jw_aload_n hX dX7_post_1 rfl 0 rfl ?_
  obtain ⟨r2, w2, hc2, h⟩ := b2_some h
  refine jw_cVi (As := []) hX jG0_ok hGX 0 (kX7_canBe hT hc2) gX7_post_X7_canBe rfl hdX7_canBe ⟨by decide, by decide⟩ 0 7 rfl rfl rfl (by decide) dX7_post_2 rfl rfl ⟨by decide, by decide⟩ ?_
  refine jw_if_eq (tgt := 21) hX dX7_post_5 (by decide) (fun hc => ?_) (fun hc => ?_)
  · rw [if_pos hc] at h
    exact sX7_post_J21 hX hT hGX hret hro h
  · rw [if_neg hc] at h
    refine jw_aload_n hX dX7_post_8 rfl 0 rfl ?_
    refine jw_mgetI hX hT inX7_post 3 (by decide) lkX7_post_126 rfl dX7_post_9 ?_
    refine jw_bipush (v := (24 : Int32)) hX dX7_post_12 (by decide) ?_
    refine jw_icmp_ge (tgt := 21) hX dX7_post_14 (by decide) (fun hc => ?_) (fun hc => ?_)
    · rw [if_pos hc] at h
      exact sX7_post_J21 hX hT hGX hret hro h
    · rw [if_neg hc] at h
      refine jw_iconst (v := (0 : Int32)) hX dX7_post_17 (by decide) ?_
      refine jw_goto (tgt := 22) hX dX7_post_18 (by decide) ?_
      exact sX7_post_J22 hX hT hGX hret hro h
set_option maxRecDepth 100000 in
set_option maxHeartbeats 4000000 in
theorem kX7_post {l : Launch} {D : va_G} {tys : List (ClassId × FieldType)} {a : Nat} {ad : Nat → Nat} {cI cZ cO cJ : ClassId} {n : Nat} {w : MW}  {r : Int32} {w1 : MW} (hT : tys = jTy cI cZ cO cJ) (h : fX7_post n w  = some (r, w1)) : CC l jG0 D tys yX7_post wsX7_post rmX7_post [.ref a] (mW a ad cI cZ w) (fun ov w2 => ov = some (.int r) ∧ w2 = (mW a ad cI cZ w1)) := by
  refine CC_of (cc := cX7_post) (maxL := 1) (ret := (some .int)) (by decide) rfl (by decide) ?_
  intro X hD hL hT0 hGX hX rI rZ rV rA
  exact sX7_post hX (hT0.trans hT) hGX (fun cells slots w9 pc lv v => rI cells slots w9 pc lv v rfl) (o := (r, w1)) (fun v9 w9 e9 => by cases e9; exact ⟨rfl, rfl⟩) h
/-! X7_isOther -/
abbrev rmX7_isOther : Room := { frames := 0, cells := 0, slots := 0, locals := 0 }
theorem hdX7_isOther : yX7_isOther.cls = RX7 ∧ yX7_isOther.cls ≠ "java/lang/invoke/MethodHandle" ∧ yX7_isOther.cls ≠ "java/lang/invoke/VarHandle" ∧ (parseMethodDescriptor yX7_isOther.desc).map (fun d => d.parameters.length) = some 1 := by decide +kernel
theorem inX7_isOther : ∀ w ∈ wsX70, w ∈ wsX7_isOther := fun _ h => List.mem_cons_of_mem _ (List.mem_append_right _ h)
theorem lkX7_isOther_119 : Cond.fieldLink RX7 119 "PostlintModel" (TX7 46).2.1 (TX7 46).2.2.1 ∈ wsX7_isOther := by decide +kernel
theorem lkX7_isOther_176 : Cond.fieldLink RX7 176 "PostlintModel" (TX7 45).2.1 (TX7 45).2.2.1 ∈ wsX7_isOther := by decide +kernel
theorem lkX7_isOther_23 : Cond.fieldLink RX7 23 "PostlintModel" (TX7 7).2.1 (TX7 7).2.2.1 ∈ wsX7_isOther := by decide +kernel
theorem lkX7_isOther_26 : Cond.fieldLink RX7 26 "PostlintModel" (TX7 8).2.1 (TX7 8).2.2.1 ∈ wsX7_isOther := by decide +kernel
def fX7_isOther_L21 (n : Nat) : Nat → MW → Int32 → Int32 → Int32 → Option (Int32)
  | 0, _, _, _, _ => none
  | k + 1, w, v1, v2, v3 => (if (w.1 45) ≤ v3 then some (v2) else (if ¬ v2 = 0 then some (v2) else chk (inB v3 (mLen 46)) (chk (inB (((60 : Int32) * v1) + v3) (mLen 8)) ((if (w.2 46 (v3).toNatClampNeg) = (w.2 8 ((((60 : Int32) * v1) + v3)).toNatClampNeg) then fX7_isOther_L21 n k w v1 ((0 : Int32)) ((v3 + (1 : Int32))) else fX7_isOther_L21 n k w v1 ((1 : Int32)) ((v3 + (1 : Int32))))))))
def fX7_isOther_J18 (n : Nat) (w : MW) (v1 t0 : Int32) : Option Int32 := bL1 (fX7_isOther_L21 n n w v1 t0 (0 : Int32)) (fun x2_21 => chk (b01 x2_21) (some x2_21))
def fX7_isOther (n : Nat) (w : MW) (v1 : Int32) : Option Int32 := chk (inB v1 (mLen 7)) ((if (w.1 45) = (w.2 7 (v1).toNatClampNeg) then fX7_isOther_J18 n w v1 (0 : Int32) else fX7_isOther_J18 n w v1 (1 : Int32)))
set_option maxRecDepth 100000 in
set_option maxHeartbeats 4000000 in
theorem sX7_isOther_L21 {X : JX} {a : Nat} {ad : Nat → Nat} {cI cZ cO cJ : ClassId} {n : Nat} {w : MW} {post : Option Value → va_W → Prop} (hX : jOK X cX7_isOther 4 wsX7_isOther RX7 rmX7_isOther) (hT : jT X = jTy cI cZ cO cJ) (hGX : jG X jG0) (hret : jRZ X cX7_isOther rmX7_isOther post) {o : (Int32)} (hex : ∀ (x2 : Int32), o = x2 → JW X 0 0 (mW a ad cI cZ w) 65 [(2, .int x2)] [])  : ∀ (k : Nat) (v1 v2 v3 : Int32), fX7_isOther_L21 n k w v1 v2 v3 = some o → JW X 0 0 (mW a ad cI cZ w) 21 [(0, .ref a), (1, .int v1), (2, .int v2), (3, .int v3)] [] := by
  intro k
  induction k with
  | zero => intro v1 v2 v3 h; cases h
  | succ k hrec0 =>
    intro v1 v2 v3 h
    have hrec := fun (_ : MW) => hrec0
    unfold fX7_isOther_L21 at h
    refine jw_iload_n hX dX7_isOther_21 rfl 3 rfl ?_
    refine jw_aload_n hX dX7_isOther_22 rfl 0 rfl ?_
    refine jw_mgetI hX hT inX7_isOther 45 (by decide) lkX7_isOther_176 rfl dX7_isOther_23 ?_
    refine jw_icmp_ge (tgt := 65) hX dX7_isOther_26 (by decide) (fun hc => ?_) (fun hc => ?_)
    · rw [if_pos hc] at h
      refine jw_sub [2] [(2, .int v2)] rfl ?_
      exact hex _ (Option.some.inj h).symm
    · rw [if_neg hc] at h
      refine jw_iload_n hX dX7_isOther_29 rfl 2 rfl ?_
      refine jw_if_ne (tgt := 65) hX dX7_isOther_30 (by decide) (fun hc => ?_) (fun hc => ?_)
      · rw [if_pos hc] at h
        refine jw_sub [2] [(2, .int v2)] rfl ?_
        exact hex _ (Option.some.inj h).symm
      · rw [if_neg hc] at h
        refine jw_aload_n hX dX7_isOther_33 rfl 0 rfl ?_
        refine jw_mgetA hX hT inX7_isOther 46 (by decide) lkX7_isOther_119 rfl dX7_isOther_34 ?_
        refine jw_iload_n hX dX7_isOther_37 rfl 3 rfl ?_
        obtain ⟨hb38, h⟩ := chk_some h
        refine jw_miald hX hT 36 46 rfl rfl hb38 dX7_isOther_38 ?_
        refine jw_aload_n hX dX7_isOther_39 rfl 0 rfl ?_
        refine jw_mgetA hX hT inX7_isOther 8 (by decide) lkX7_isOther_26 rfl dX7_isOther_40 ?_
        refine jw_bipush (v := (60 : Int32)) hX dX7_isOther_43 (by decide) ?_
        refine jw_iload_n hX dX7_isOther_45 rfl 1 rfl ?_
        refine jw_imul hX dX7_isOther_46 ?_
        refine jw_iload_n hX dX7_isOther_47 rfl 3 rfl ?_
        refine jw_iadd hX dX7_isOther_48 ?_
        obtain ⟨hb49, h⟩ := chk_some h
        refine jw_miald hX hT 5 8 rfl rfl hb49 dX7_isOther_49 ?_
        refine jw_icmp_eq (tgt := 57) hX dX7_isOther_50 (by decide) (fun hc => ?_) (fun hc => ?_)
        · rw [if_pos hc] at h
          refine jw_iconst (v := (0 : Int32)) hX dX7_isOther_57 (by decide) ?_
          refine jw_istore_n hX [(2, .int (0 : Int32)), (0, .ref a), (1, .int v1), (3, .int v3)] dX7_isOther_58 rfl (by decide) rfl ?_
          refine jw_iinc (v := (v3 + (1 : Int32))) hX [(3, .int (v3 + (1 : Int32))), (2, .int (0 : Int32)), (0, .ref a), (1, .int v1)] dX7_isOther_59 3 rfl (by first | rfl | (congr 1; decide)) (by decide) rfl ?_
          refine jw_goto (tgt := 21) hX dX7_isOther_62 (by decide) ?_
          refine jw_sub [2, 3, 1, 0] [(0, .ref a), (1, .int v1), (2, .int (0 : Int32)), (3, .int (v3 + (1 : Int32)))] rfl ?_
          exact hrec w _ _ _ h
        · rw [if_neg hc] at h
          refine jw_iconst (v := (1 : Int32)) hX dX7_isOther_53 (by decide) ?_
          refine jw_goto (tgt := 58) hX dX7_isOther_54 (by decide) ?_
          refine jw_istore_n hX [(2, .int (1 : Int32)), (0, .ref a), (1, .int v1), (3, .int v3)] dX7_isOther_58 rfl (by decide) rfl ?_
          refine jw_iinc (v := (v3 + (1 : Int32))) hX [(3, .int (v3 + (1 : Int32))), (2, .int (1 : Int32)), (0, .ref a), (1, .int v1)] dX7_isOther_59 3 rfl (by first | rfl | (congr 1; decide)) (by decide) rfl ?_
          refine jw_goto (tgt := 21) hX dX7_isOther_62 (by decide) ?_
          refine jw_sub [2, 3, 1, 0] [(0, .ref a), (1, .int v1), (2, .int (1 : Int32)), (3, .int (v3 + (1 : Int32)))] rfl ?_
          exact hrec w _ _ _ h
set_option maxRecDepth 100000 in
set_option maxHeartbeats 4000000 in
theorem sX7_isOther_J18 {X : JX} {a : Nat} {ad : Nat → Nat} {cI cZ cO cJ : ClassId} {n : Nat} {w : MW} {post : Option Value → va_W → Prop} (hX : jOK X cX7_isOther 4 wsX7_isOther RX7 rmX7_isOther) (hT : jT X = jTy cI cZ cO cJ) (hGX : jG X jG0) (hret : jRZ X cX7_isOther rmX7_isOther post) {o : Int32}   (hro : ∀ v9 : Int32, o = v9 → post (some (.int v9)) (mW a ad cI cZ w)) {v1 t0 : Int32} (h : fX7_isOther_J18 n w v1 t0 = some o) : JW X 0 0 (mW a ad cI cZ w) 18 [(0, .ref a), (1, .int v1)] [.int t0] := by
  unfold fX7_isOther_J18 at h
  refine jw_istore_n hX [(2, .int t0), (0, .ref a), (1, .int v1)] dX7_isOther_18 rfl (by decide) rfl ?_
  refine jw_iconst (v := (0 : Int32)) hX dX7_isOther_19 (by decide) ?_
  refine jw_istore_n hX [(3, .int (0 : Int32)), (2, .int t0), (0, .ref a), (1, .int v1)] dX7_isOther_20 rfl (by decide) rfl ?_
  refine jw_sub [2, 3, 1, 0] [(0, .ref a), (1, .int v1), (2, .int t0), (3, .int (0 : Int32))] rfl ?_
  obtain ⟨x2_21, hl21, h⟩ := bL1_some h
  refine sX7_isOther_L21 hX hT hGX hret (o := x2_21) (fun q0 e9 => ?_) n _ _ _ hl21
  cases e9
  refine jw_iload_n hX dX7_isOther_65 rfl 0 rfl ?_
  obtain ⟨hz66, h⟩ := chk_some h
  exact hret _ _ _ _ _ _ (b01_or hz66) (Nat.zero_le _) (Nat.zero_le _) dX7_isOther_66 (hro _ (Option.some.inj h).symm)
set_option maxRecDepth 100000 in
set_option maxHeartbeats 4000000 in
theorem sX7_isOther {X : JX} {a : Nat} {ad : Nat → Nat} {cI cZ cO cJ : ClassId} {n : Nat} {w : MW} {post : Option Value → va_W → Prop} (hX : jOK X cX7_isOther 4 wsX7_isOther RX7 rmX7_isOther) (hT : jT X = jTy cI cZ cO cJ) (hGX : jG X jG0) (hret : jRZ X cX7_isOther rmX7_isOther post) {o : Int32} (hro : ∀ v9 : Int32, o = v9 → post (some (.int v9)) (mW a ad cI cZ w)) {v1 : Int32} (h : fX7_isOther n w v1 = some o) : JW X 0 0 (mW a ad cI cZ w) 0 [(0, .ref a), (1, .int v1)] [] := by
  unfold fX7_isOther at h
  refine jw_aload_n hX dX7_isOther_0 rfl 0 rfl ?_
  refine jw_mgetI hX hT inX7_isOther 45 (by decide) lkX7_isOther_176 rfl dX7_isOther_1 ?_
  refine jw_aload_n hX dX7_isOther_4 rfl 0 rfl ?_
  refine jw_mgetA hX hT inX7_isOther 7 (by decide) lkX7_isOther_23 rfl dX7_isOther_5 ?_
  refine jw_iload_n hX dX7_isOther_8 rfl 1 rfl ?_
  obtain ⟨hb9, h⟩ := chk_some h
  refine jw_miald hX hT 4 7 rfl rfl hb9 dX7_isOther_9 ?_
  refine jw_icmp_eq (tgt := 17) hX dX7_isOther_10 (by decide) (fun hc => ?_) (fun hc => ?_)
  · rw [if_pos hc] at h
    refine jw_iconst (v := (0 : Int32)) hX dX7_isOther_17 (by decide) ?_
    exact sX7_isOther_J18 hX hT hGX hret hro h
  · rw [if_neg hc] at h
    refine jw_iconst (v := (1 : Int32)) hX dX7_isOther_13 (by decide) ?_
    refine jw_goto (tgt := 18) hX dX7_isOther_14 (by decide) ?_
    exact sX7_isOther_J18 hX hT hGX hret hro h
set_option maxRecDepth 100000 in
set_option maxHeartbeats 4000000 in
theorem kX7_isOther {l : Launch} {D : va_G} {tys : List (ClassId × FieldType)} {a : Nat} {ad : Nat → Nat} {cI cZ cO cJ : ClassId} {n : Nat} {w : MW} {v1 : Int32} {r : Int32} (hT : tys = jTy cI cZ cO cJ) (h : fX7_isOther n w v1 = some r) : CC l jG0 D tys yX7_isOther wsX7_isOther rmX7_isOther [.ref a, .int v1] (mW a ad cI cZ w) (fun ov w2 => ov = some (.int r) ∧ w2 = (mW a ad cI cZ w)) := by
  refine CC_of (cc := cX7_isOther) (maxL := 4) (ret := (some .boolean)) (by decide) rfl (by decide) ?_
  intro X hD hL hT0 hGX hX rI rZ rV rA
  exact sX7_isOther hX (hT0.trans hT) hGX (fun cells slots w9 pc lv v => rZ cells slots w9 pc lv v rfl) (o := r) (fun v9 e9 => by cases e9; exact ⟨rfl, rfl⟩) h
/-! X7_frozen -/
abbrev rmX7_frozen : Room := { frames := 1, cells := 0, slots := 0, locals := 22 }
theorem hdX7_frozen : yX7_frozen.cls = RX7 ∧ yX7_frozen.cls ≠ "java/lang/invoke/MethodHandle" ∧ yX7_frozen.cls ≠ "java/lang/invoke/VarHandle" ∧ (parseMethodDescriptor yX7_frozen.desc).map (fun d => d.parameters.length) = some 1 := by decide +kernel
theorem inX7_frozen : ∀ w ∈ wsX70, w ∈ wsX7_frozen := fun _ h => List.mem_cons_of_mem _ (List.mem_append_right _ h)
theorem lkX7_frozen_203 : Cond.fieldLink RX7 203 "PostlintModel" (TX7 21).2.1 (TX7 21).2.2.1 ∈ wsX7_frozen := by decide +kernel
theorem lkX7_frozen_62 : Cond.fieldLink RX7 62 "PostlintModel" (TX7 22).2.1 (TX7 22).2.2.1 ∈ wsX7_frozen := by decide +kernel
theorem lkX7_frozen_65 : Cond.fieldLink RX7 65 "PostlintModel" (TX7 23).2.1 (TX7 23).2.2.1 ∈ wsX7_frozen := by decide +kernel
theorem lkX7_frozen_71 : Cond.fieldLink RX7 71 "PostlintModel" (TX7 25).2.1 (TX7 25).2.2.1 ∈ wsX7_frozen := by decide +kernel
def fX7_frozen_L4 (n : Nat) : Nat → MW → Int32 → Int32 → Int32 → Option (Int32)
  | 0, _, _, _, _ => none
  | k + 1, w, v1, v2, v3 => (if (w.1 21) ≤ v3 then some (v2) else (if ¬ v2 = 0 then fX7_frozen_L4 n k w v1 ((1 : Int32)) ((v3 + (1 : Int32))) else chk (inB v3 (mLen 25)) ((if ¬ (w.2 25 (v3).toNatClampNeg) = 0 then fX7_frozen_L4 n k w v1 ((0 : Int32)) ((v3 + (1 : Int32))) else chk (inB v3 (mLen 22)) (chk (inB v3 (mLen 23)) (bP (fX7_isIn v1 (w.2 22 (v3).toNatClampNeg) (w.2 23 (v3).toNatClampNeg)) (fun r38 => (if r38 = 0 then fX7_frozen_L4 n k w v1 ((0 : Int32)) ((v3 + (1 : Int32))) else fX7_frozen_L4 n k w v1 ((1 : Int32)) ((v3 + (1 : Int32)))))))))))
def fX7_frozen (n : Nat) (w : MW) (v1 : Int32) : Option Int32 := bL1 (fX7_frozen_L4 n n w v1 (0 : Int32) (0 : Int32)) (fun x2_4 => chk (b01 x2_4) (some x2_4))
set_option maxRecDepth 100000 in
set_option maxHeartbeats 4000000 in
theorem sX7_frozen_L4 {X : JX} {a : Nat} {ad : Nat → Nat} {cI cZ cO cJ : ClassId} {n : Nat} {w : MW} {post : Option Value → va_W → Prop} (hX : jOK X cX7_frozen 4 wsX7_frozen RX7 rmX7_frozen) (hT : jT X = jTy cI cZ cO cJ) (hGX : jG X jG0) (hret : jRZ X cX7_frozen rmX7_frozen post) {o : (Int32)} (hex : ∀ (x2 : Int32), o = x2 → JW X 0 0 (mW a ad cI cZ w) 56 [(2, .int x2)] [])  : ∀ (k : Nat) (v1 v2 v3 : Int32), fX7_frozen_L4 n k w v1 v2 v3 = some o → JW X 0 0 (mW a ad cI cZ w) 4 [(0, .ref a), (1, .int v1), (2, .int v2), (3, .int v3)] [] := by
  intro k
  induction k with
  | zero => intro v1 v2 v3 h; cases h
  | succ k hrec0 =>
    intro v1 v2 v3 h
    have hrec := fun (_ : MW) => hrec0
    unfold fX7_frozen_L4 at h
    refine jw_iload_n hX dX7_frozen_4 rfl 3 rfl ?_
    refine jw_aload_n hX dX7_frozen_5 rfl 0 rfl ?_
    refine jw_mgetI hX hT inX7_frozen 21 (by decide) lkX7_frozen_203 rfl dX7_frozen_6 ?_
    refine jw_icmp_ge (tgt := 56) hX dX7_frozen_9 (by decide) (fun hc => ?_) (fun hc => ?_)
    · rw [if_pos hc] at h
      refine jw_sub [2] [(2, .int v2)] rfl ?_
      exact hex _ (Option.some.inj h).symm
    · rw [if_neg hc] at h
      refine jw_iload_n hX dX7_frozen_12 rfl 2 rfl ?_
      refine jw_if_ne (tgt := 44) hX dX7_frozen_13 (by decide) (fun hc => ?_) (fun hc => ?_)
      · rw [if_pos hc] at h
        refine jw_iconst (v := (1 : Int32)) hX dX7_frozen_44 (by decide) ?_
        refine jw_goto (tgt := 49) hX dX7_frozen_45 (by decide) ?_
        refine jw_istore_n hX [(2, .int (1 : Int32)), (0, .ref a), (1, .int v1), (3, .int v3)] dX7_frozen_49 rfl (by decide) rfl ?_
        refine jw_iinc (v := (v3 + (1 : Int32))) hX [(3, .int (v3 + (1 : Int32))), (2, .int (1 : Int32)), (0, .ref a), (1, .int v1)] dX7_frozen_50 3 rfl (by first | rfl | (congr 1; decide)) (by decide) rfl ?_
        refine jw_goto (tgt := 4) hX dX7_frozen_53 (by decide) ?_
        refine jw_sub [2, 3, 1, 0] [(0, .ref a), (1, .int v1), (2, .int (1 : Int32)), (3, .int (v3 + (1 : Int32)))] rfl ?_
        exact hrec w _ _ _ h
      · rw [if_neg hc] at h
        refine jw_aload_n hX dX7_frozen_16 rfl 0 rfl ?_
        refine jw_mgetA hX hT inX7_frozen 25 (by decide) lkX7_frozen_71 rfl dX7_frozen_17 ?_
        refine jw_iload_n hX dX7_frozen_20 rfl 3 rfl ?_
        obtain ⟨hb21, h⟩ := chk_some h
        refine jw_mzald hX hT 20 25 rfl rfl hb21 dX7_frozen_21 ?_
        refine jw_if_ne (tgt := 48) hX dX7_frozen_22 (by decide) (fun hc => ?_) (fun hc => ?_)
        · rw [if_pos hc] at h
          refine jw_iconst (v := (0 : Int32)) hX dX7_frozen_48 (by decide) ?_
          refine jw_istore_n hX [(2, .int (0 : Int32)), (0, .ref a), (1, .int v1), (3, .int v3)] dX7_frozen_49 rfl (by decide) rfl ?_
          refine jw_iinc (v := (v3 + (1 : Int32))) hX [(3, .int (v3 + (1 : Int32))), (2, .int (0 : Int32)), (0, .ref a), (1, .int v1)] dX7_frozen_50 3 rfl (by first | rfl | (congr 1; decide)) (by decide) rfl ?_
          refine jw_goto (tgt := 4) hX dX7_frozen_53 (by decide) ?_
          refine jw_sub [2, 3, 1, 0] [(0, .ref a), (1, .int v1), (2, .int (0 : Int32)), (3, .int (v3 + (1 : Int32)))] rfl ?_
          exact hrec w _ _ _ h
        · rw [if_neg hc] at h
          refine jw_iload_n hX dX7_frozen_25 rfl 1 rfl ?_
          refine jw_aload_n hX dX7_frozen_26 rfl 0 rfl ?_
          refine jw_mgetA hX hT inX7_frozen 22 (by decide) lkX7_frozen_62 rfl dX7_frozen_27 ?_
          refine jw_iload_n hX dX7_frozen_30 rfl 3 rfl ?_
          obtain ⟨hb31, h⟩ := chk_some h
          refine jw_miald hX hT 17 22 rfl rfl hb31 dX7_frozen_31 ?_
          refine jw_aload_n hX dX7_frozen_32 rfl 0 rfl ?_
          refine jw_mgetA hX hT inX7_frozen 23 (by decide) lkX7_frozen_65 rfl dX7_frozen_33 ?_
          refine jw_iload_n hX dX7_frozen_36 rfl 3 rfl ?_
          obtain ⟨hb37, h⟩ := chk_some h
          refine jw_miald hX hT 18 23 rfl rfl hb37 dX7_frozen_37 ?_
          obtain ⟨r38, hc38, h⟩ := bP_some h
          refine jw_cSi (As := [.int v1, .int (w.2 22 (v3).toNatClampNeg), .int (w.2 23 (v3).toNatClampNeg)]) hX jG0_ok hGX 3 (kX7_isIn hT hc38) gX7_frozen_X7_isIn rfl hdX7_isIn ⟨by decide, by decide⟩ rfl (by decide) dX7_frozen_38 rfl rfl ⟨by decide, by decide⟩ ?_
          refine jw_if_eq (tgt := 48) hX dX7_frozen_41 (by decide) (fun hc => ?_) (fun hc => ?_)
          · rw [if_pos hc] at h
            refine jw_iconst (v := (0 : Int32)) hX dX7_frozen_48 (by decide) ?_
            refine jw_istore_n hX [(2, .int (0 : Int32)), (0, .ref a), (1, .int v1), (3, .int v3)] dX7_frozen_49 rfl (by decide) rfl ?_
            refine jw_iinc (v := (v3 + (1 : Int32))) hX [(3, .int (v3 + (1 : Int32))), (2, .int (0 : Int32)), (0, .ref a), (1, .int v1)] dX7_frozen_50 3 rfl (by first | rfl | (congr 1; decide)) (by decide) rfl ?_
            refine jw_goto (tgt := 4) hX dX7_frozen_53 (by decide) ?_
            refine jw_sub [2, 3, 1, 0] [(0, .ref a), (1, .int v1), (2, .int (0 : Int32)), (3, .int (v3 + (1 : Int32)))] rfl ?_
            exact hrec w _ _ _ h
          · rw [if_neg hc] at h
            refine jw_iconst (v := (1 : Int32)) hX dX7_frozen_44 (by decide) ?_
            refine jw_goto (tgt := 49) hX dX7_frozen_45 (by decide) ?_
            refine jw_istore_n hX [(2, .int (1 : Int32)), (0, .ref a), (1, .int v1), (3, .int v3)] dX7_frozen_49 rfl (by decide) rfl ?_
            refine jw_iinc (v := (v3 + (1 : Int32))) hX [(3, .int (v3 + (1 : Int32))), (2, .int (1 : Int32)), (0, .ref a), (1, .int v1)] dX7_frozen_50 3 rfl (by first | rfl | (congr 1; decide)) (by decide) rfl ?_
            refine jw_goto (tgt := 4) hX dX7_frozen_53 (by decide) ?_
            refine jw_sub [2, 3, 1, 0] [(0, .ref a), (1, .int v1), (2, .int (1 : Int32)), (3, .int (v3 + (1 : Int32)))] rfl ?_
            exact hrec w _ _ _ h
set_option maxRecDepth 100000 in
set_option maxHeartbeats 4000000 in
theorem sX7_frozen {X : JX} {a : Nat} {ad : Nat → Nat} {cI cZ cO cJ : ClassId} {n : Nat} {w : MW} {post : Option Value → va_W → Prop} (hX : jOK X cX7_frozen 4 wsX7_frozen RX7 rmX7_frozen) (hT : jT X = jTy cI cZ cO cJ) (hGX : jG X jG0) (hret : jRZ X cX7_frozen rmX7_frozen post) {o : Int32} (hro : ∀ v9 : Int32, o = v9 → post (some (.int v9)) (mW a ad cI cZ w)) {v1 : Int32} (h : fX7_frozen n w v1 = some o) : JW X 0 0 (mW a ad cI cZ w) 0 [(0, .ref a), (1, .int v1)] [] := by
  unfold fX7_frozen at h
  refine jw_iconst (v := (0 : Int32)) hX dX7_frozen_0 (by decide) ?_
  refine jw_istore_n hX [(2, .int (0 : Int32)), (0, .ref a), (1, .int v1)] dX7_frozen_1 rfl (by decide) rfl ?_
  refine jw_iconst (v := (0 : Int32)) hX dX7_frozen_2 (by decide) ?_
  refine jw_istore_n hX [(3, .int (0 : Int32)), (2, .int (0 : Int32)), (0, .ref a), (1, .int v1)] dX7_frozen_3 rfl (by decide) rfl ?_
  refine jw_sub [2, 3, 1, 0] [(0, .ref a), (1, .int v1), (2, .int (0 : Int32)), (3, .int (0 : Int32))] rfl ?_
  obtain ⟨x2_4, hl4, h⟩ := bL1_some h
  refine sX7_frozen_L4 hX hT hGX hret (o := x2_4) (fun q0 e9 => ?_) n _ _ _ hl4
  cases e9
  refine jw_iload_n hX dX7_frozen_56 rfl 0 rfl ?_
  obtain ⟨hz57, h⟩ := chk_some h
  exact hret _ _ _ _ _ _ (b01_or hz57) (Nat.zero_le _) (Nat.zero_le _) dX7_frozen_57 (hro _ (Option.some.inj h).symm)
set_option maxRecDepth 100000 in
set_option maxHeartbeats 4000000 in
theorem kX7_frozen {l : Launch} {D : va_G} {tys : List (ClassId × FieldType)} {a : Nat} {ad : Nat → Nat} {cI cZ cO cJ : ClassId} {n : Nat} {w : MW} {v1 : Int32} {r : Int32} (hT : tys = jTy cI cZ cO cJ) (h : fX7_frozen n w v1 = some r) : CC l jG0 D tys yX7_frozen wsX7_frozen rmX7_frozen [.ref a, .int v1] (mW a ad cI cZ w) (fun ov w2 => ov = some (.int r) ∧ w2 = (mW a ad cI cZ w)) := by
  refine CC_of (cc := cX7_frozen) (maxL := 4) (ret := (some .boolean)) (by decide) rfl (by decide) ?_
  intro X hD hL hT0 hGX hX rI rZ rV rA
  exact sX7_frozen hX (hT0.trans hT) hGX (fun cells slots w9 pc lv v => rZ cells slots w9 pc lv v rfl) (o := r) (fun v9 e9 => by cases e9; exact ⟨rfl, rfl⟩) h
/-! X7_write -/
abbrev rmX7_write : Room := { frames := 5, cells := 0, slots := 0, locals := 119 }
theorem hdX7_write : yX7_write.cls = RX7 ∧ yX7_write.cls ≠ "java/lang/invoke/MethodHandle" ∧ yX7_write.cls ≠ "java/lang/invoke/VarHandle" ∧ (parseMethodDescriptor yX7_write.desc).map (fun d => d.parameters.length) = some 1 := by decide +kernel
def fX7_write_J73 (n : Nat) (w : MW) (v1 v4 t0 : Int32) : Option (Int32 × MW) := b2 (fX7_isOf w t0) (fun r73 w73 => (if ¬ r73 = 0 then bP (fX7_lays n w73 v1) (fun w83 => bP (fX7_proves n w83 ) (fun w87 => chk (b01 v4) (some (v4, w87)))) else chk (b01 (0 : Int32)) (some ((0 : Int32), w73))))
def fX7_write_J68 (n : Nat) (w : MW) (v1 v4 : Int32) : Option (Int32 × MW) := fX7_write_J73 n w v1 v4 (2 : Int32)
def fX7_write_J72 (n : Nat) (w : MW) (v1 v4 : Int32) : Option (Int32 × MW) := fX7_write_J73 n w v1 v4 (0 : Int32)
def fX7_write_J40 (n : Nat) (w : MW) (v1 v2 v3 t0 : Int32) : Option (Int32 × MW) := (if ¬ v2 = 0 then (if v3 = 0 then fX7_write_J68 n w v1 t0 else (if t0 = 0 then fX7_write_J72 n w v1 t0 else bP (fX7_frozen n w v1) (fun r62 => (if r62 = 0 then fX7_write_J72 n w v1 t0 else fX7_write_J68 n w v1 t0)))) else fX7_write_J73 n w v1 t0 (1 : Int32))
def fX7_write_J39 (n : Nat) (w : MW) (v1 v2 v3 : Int32) : Option (Int32 × MW) := fX7_write_J40 n w v1 v2 v3 (0 : Int32)
def fX7_write_J22 (n : Nat) (w : MW) (v1 v2 t0 : Int32) : Option (Int32 × MW) := (if t0 = 0 then fX7_write_J39 n w v1 v2 t0 else bP (fX7_isOther n w v1) (fun r29 => (if r29 = 0 then fX7_write_J39 n w v1 v2 t0 else fX7_write_J40 n w v1 v2 t0 (1 : Int32))))
def fX7_write_J21 (n : Nat) (w : MW) (v1 v2 : Int32) : Option (Int32 × MW) := fX7_write_J22 n w v1 v2 (0 : Int32)
def fX7_write (n : Nat) (w : MW) (v1 : Int32) : Option (Int32 × MW) := bP (fX7_isEntry w v1) (fun r2 => (if r2 = 0 then fX7_write_J21 n w v1 r2 else b2 (fX7_canBe n w ) (fun r11 w11 => (if r11 = 0 then fX7_write_J21 n w11 v1 r2 else fX7_write_J22 n w11 v1 r2 (1 : Int32)))))
set_option maxRecDepth 100000 in
set_option maxHeartbeats 4000000 in
theorem sX7_write_J73 {X : JX} {a : Nat} {ad : Nat → Nat} {cI cZ cO cJ : ClassId} {n : Nat} {post : Option Value → va_W → Prop} (hX : jOK X cX7_write 5 wsX7_write RX7 rmX7_write) (hT : jT X = jTy cI cZ cO cJ) (hGX : jG X jG0) (hret : jRZ X cX7_write rmX7_write post) {o : (Int32 × MW)}   (hro : ∀ (v9 : Int32) (w9 : MW), o = (v9, w9) → post (some (.int v9)) (mW a ad cI cZ w9)) {w : MW} {v1 v4 t0 : Int32} (h : fX7_write_J73 n w v1 v4 t0 = some o) : JW X 0 0 (mW a ad cI cZ w) 73 [(0, .ref a), (1, .int v1), (4, .int v4)] [.int t0, .ref a] := by
  unfold fX7_write_J73 at h
  obtain ⟨r73, w73, hc73, h⟩ := b2_some h
  refine jw_cVi (As := [.int t0]) hX jG0_ok hGX 1 (kX7_isOf hT hc73) gX7_write_X7_isOf rfl hdX7_isOf ⟨by decide, by decide⟩ 0 7 rfl rfl rfl (by decide) dX7_write_73 rfl rfl ⟨by decide, by decide⟩ ?_
  refine jw_if_ne (tgt := 81) hX dX7_write_76 (by decide) (fun hc => ?_) (fun hc => ?_)
  · rw [if_pos hc] at h
    refine jw_aload_n hX dX7_write_81 rfl 0 rfl ?_
    refine jw_iload_n hX dX7_write_82 rfl 1 rfl ?_
    obtain ⟨w83, hc83, h⟩ := bP_some h
    refine jw_cVv (As := [.int v1]) hX jG0_ok hGX 1 (kX7_lays hT hc83) gX7_write_X7_lays rfl hdX7_lays ⟨by decide, by decide⟩ 0 7 rfl rfl rfl (by decide) dX7_write_83 rfl rfl ⟨by decide, by decide⟩ ?_
    refine jw_aload_n hX dX7_write_86 rfl 0 rfl ?_
    obtain ⟨w87, hc87, h⟩ := bP_some h
    refine jw_cVv (As := []) hX jG0_ok hGX 0 (kX7_proves hT hc87) gX7_write_X7_proves rfl hdX7_proves ⟨by decide, by decide⟩ 0 7 rfl rfl rfl (by decide) dX7_write_87 rfl rfl ⟨by decide, by decide⟩ ?_
    refine jw_iload hX dX7_write_90 2 rfl ?_
    obtain ⟨hz92, h⟩ := chk_some h
    exact hret _ _ _ _ _ _ (b01_or hz92) (Nat.zero_le _) (Nat.zero_le _) dX7_write_92 (hro _ _ (Option.some.inj h).symm)
  · rw [if_neg hc] at h
    refine jw_iconst (v := (0 : Int32)) hX dX7_write_79 (by decide) ?_
    obtain ⟨hz80, h⟩ := chk_some h
    exact hret _ _ _ _ _ _ (b01_or hz80) (Nat.zero_le _) (Nat.zero_le _) dX7_write_80 (hro _ _ (Option.some.inj h).symm)
set_option maxRecDepth 100000 in
set_option maxHeartbeats 4000000 in
theorem sX7_write_J68 {X : JX} {a : Nat} {ad : Nat → Nat} {cI cZ cO cJ : ClassId} {n : Nat} {post : Option Value → va_W → Prop} (hX : jOK X cX7_write 5 wsX7_write RX7 rmX7_write) (hT : jT X = jTy cI cZ cO cJ) (hGX : jG X jG0) (hret : jRZ X cX7_write rmX7_write post) {o : (Int32 × MW)}   (hro : ∀ (v9 : Int32) (w9 : MW), o = (v9, w9) → post (some (.int v9)) (mW a ad cI cZ w9)) {w : MW} {v1 v4 : Int32} (h : fX7_write_J68 n w v1 v4 = some o) : JW X 0 0 (mW a ad cI cZ w) 68 [(0, .ref a), (1, .int v1), (4, .int v4)] [.ref a] := by
  unfold fX7_write_J68 at h
  refine jw_iconst (v := (2 : Int32)) hX dX7_write_68 (by decide) ?_
  refine jw_goto (tgt := 73) hX dX7_write_69 (by decide) ?_
  exact sX7_write_J73 hX hT hGX hret hro h
set_option maxRecDepth 100000 in
set_option maxHeartbeats 4000000 in
theorem sX7_write_J72 {X : JX} {a : Nat} {ad : Nat → Nat} {cI cZ cO cJ : ClassId} {n : Nat} {post : Option Value → va_W → Prop} (hX : jOK X cX7_write 5 wsX7_write RX7 rmX7_write) (hT : jT X = jTy cI cZ cO cJ) (hGX : jG X jG0) (hret : jRZ X cX7_write rmX7_write post) {o : (Int32 × MW)}   (hro : ∀ (v9 : Int32) (w9 : MW), o = (v9, w9) → post (some (.int v9)) (mW a ad cI cZ w9)) {w : MW} {v1 v4 : Int32} (h : fX7_write_J72 n w v1 v4 = some o) : JW X 0 0 (mW a ad cI cZ w) 72 [(0, .ref a), (1, .int v1), (4, .int v4)] [.ref a] := by
  unfold fX7_write_J72 at h
  refine jw_iconst (v := (0 : Int32)) hX dX7_write_72 (by decide) ?_
  exact sX7_write_J73 hX hT hGX hret hro h
set_option maxRecDepth 100000 in
set_option maxHeartbeats 4000000 in
theorem sX7_write_J40 {X : JX} {a : Nat} {ad : Nat → Nat} {cI cZ cO cJ : ClassId} {n : Nat} {post : Option Value → va_W → Prop} (hX : jOK X cX7_write 5 wsX7_write RX7 rmX7_write) (hT : jT X = jTy cI cZ cO cJ) (hGX : jG X jG0) (hret : jRZ X cX7_write rmX7_write post) {o : (Int32 × MW)}   (hro : ∀ (v9 : Int32) (w9 : MW), o = (v9, w9) → post (some (.int v9)) (mW a ad cI cZ w9)) {w : MW} {v1 v2 v3 t0 : Int32} (h : fX7_write_J40 n w v1 v2 v3 t0 = some o) : JW X 0 0 (mW a ad cI cZ w) 40 [(0, .ref a), (1, .int v1), (2, .int v2), (3, .int v3)] [.int t0] := by
  unfold fX7_write_J40 at h
  refine jw_istore hX [(4, .int t0), (0, .ref a), (1, .int v1), (2, .int v2), (3, .int v3)] dX7_write_40 (by decide) rfl ?_
  refine jw_aload_n hX dX7_write_42 rfl 1 rfl ?_
  refine jw_iload_n hX dX7_write_43 rfl 3 rfl ?_
  refine jw_if_ne (tgt := 51) hX dX7_write_44 (by decide) (fun hc => ?_) (fun hc => ?_)
  · rw [if_pos hc] at h
    refine jw_iload_n hX dX7_write_51 rfl 4 rfl ?_
    refine jw_if_eq (tgt := 68) hX dX7_write_52 (by decide) (fun hc => ?_) (fun hc => ?_)
    · rw [if_pos hc] at h
      refine jw_sub [1, 2, 0] [(0, .ref a), (1, .int v1), (4, .int t0)] rfl ?_
      exact sX7_write_J68 hX hT hGX hret hro h
    · rw [if_neg hc] at h
      refine jw_iload hX dX7_write_55 0 rfl ?_
      refine jw_if_eq (tgt := 72) hX dX7_write_57 (by decide) (fun hc => ?_) (fun hc => ?_)
      · rw [if_pos hc] at h
        refine jw_sub [1, 2, 0] [(0, .ref a), (1, .int v1), (4, .int t0)] rfl ?_
        exact sX7_write_J72 hX hT hGX hret hro h
      · rw [if_neg hc] at h
        refine jw_aload_n hX dX7_write_60 rfl 1 rfl ?_
        refine jw_iload_n hX dX7_write_61 rfl 2 rfl ?_
        obtain ⟨r62, hc62, h⟩ := bP_some h
        refine jw_cVi (As := [.int v1]) hX jG0_ok hGX 1 (kX7_frozen hT hc62) gX7_write_X7_frozen rfl hdX7_frozen ⟨by decide, by decide⟩ 0 7 rfl rfl rfl (by decide) dX7_write_62 rfl rfl ⟨by decide, by decide⟩ ?_
        refine jw_if_eq (tgt := 72) hX dX7_write_65 (by decide) (fun hc => ?_) (fun hc => ?_)
        · rw [if_pos hc] at h
          refine jw_sub [1, 2, 0] [(0, .ref a), (1, .int v1), (4, .int t0)] rfl ?_
          exact sX7_write_J72 hX hT hGX hret hro h
        · rw [if_neg hc] at h
          refine jw_sub [1, 2, 0] [(0, .ref a), (1, .int v1), (4, .int t0)] rfl ?_
          exact sX7_write_J68 hX hT hGX hret hro h
  · rw [if_neg hc] at h
    refine jw_iconst (v := (1 : Int32)) hX dX7_write_47 (by decide) ?_
    refine jw_goto (tgt := 73) hX dX7_write_48 (by decide) ?_
    refine jw_sub [1, 2, 0] [(0, .ref a), (1, .int v1), (4, .int t0)] rfl ?_
    exact sX7_write_J73 hX hT hGX hret hro h
set_option maxRecDepth 100000 in
set_option maxHeartbeats 4000000 in
theorem sX7_write_J39 {X : JX} {a : Nat} {ad : Nat → Nat} {cI cZ cO cJ : ClassId} {n : Nat} {post : Option Value → va_W → Prop} (hX : jOK X cX7_write 5 wsX7_write RX7 rmX7_write) (hT : jT X = jTy cI cZ cO cJ) (hGX : jG X jG0) (hret : jRZ X cX7_write rmX7_write post) {o : (Int32 × MW)}   (hro : ∀ (v9 : Int32) (w9 : MW), o = (v9, w9) → post (some (.int v9)) (mW a ad cI cZ w9)) {w : MW} {v1 v2 v3 : Int32} (h : fX7_write_J39 n w v1 v2 v3 = some o) : JW X 0 0 (mW a ad cI cZ w) 39 [(0, .ref a), (1, .int v1), (2, .int v2), (3, .int v3)] [] := by
  unfold fX7_write_J39 at h
  refine jw_iconst (v := (0 : Int32)) hX dX7_write_39 (by decide) ?_
  exact sX7_write_J40 hX hT hGX hret hro h
set_option maxRecDepth 100000 in
set_option maxHeartbeats 4000000 in
theorem sX7_write_J22 {X : JX} {a : Nat} {ad : Nat → Nat} {cI cZ cO cJ : ClassId} {n : Nat} {post : Option Value → va_W → Prop} (hX : jOK X cX7_write 5 wsX7_write RX7 rmX7_write) (hT : jT X = jTy cI cZ cO cJ) (hGX : jG X jG0) (hret : jRZ X cX7_write rmX7_write post) {o : (Int32 × MW)}   (hro : ∀ (v9 : Int32) (w9 : MW), o = (v9, w9) → post (some (.int v9)) (mW a ad cI cZ w9)) {w : MW} {v1 v2 t0 : Int32} (h : fX7_write_J22 n w v1 v2 t0 = some o) : JW X 0 0 (mW a ad cI cZ w) 22 [(0, .ref a), (1, .int v1), (2, .int v2)] [.int t0] := by
  unfold fX7_write_J22 at h
  refine jw_istore_n hX [(3, .int t0), (0, .ref a), (1, .int v1), (2, .int v2)] dX7_write_22 rfl (by decide) rfl ?_
  refine jw_iload_n hX dX7_write_23 rfl 0 rfl ?_
  refine jw_if_eq (tgt := 39) hX dX7_write_24 (by decide) (fun hc => ?_) (fun hc => ?_)
  · rw [if_pos hc] at h
    refine jw_sub [1, 2, 3, 0] [(0, .ref a), (1, .int v1), (2, .int v2), (3, .int t0)] rfl ?_
    exact sX7_write_J39 hX hT hGX hret hro h
  · rw [if_neg hc] at h
    refine jw_aload_n hX dX7_write_27 rfl 1 rfl ?_
    refine jw_iload_n hX dX7_write_28 rfl 2 rfl ?_
    obtain ⟨r29, hc29, h⟩ := bP_some h
    refine jw_cVi (As := [.int v1]) hX jG0_ok hGX 1 (kX7_isOther hT hc29) gX7_write_X7_isOther rfl hdX7_isOther ⟨by decide, by decide⟩ 0 7 rfl rfl rfl (by decide) dX7_write_29 rfl rfl ⟨by decide, by decide⟩ ?_
    refine jw_if_eq (tgt := 39) hX dX7_write_32 (by decide) (fun hc => ?_) (fun hc => ?_)
    · rw [if_pos hc] at h
      refine jw_sub [1, 2, 3, 0] [(0, .ref a), (1, .int v1), (2, .int v2), (3, .int t0)] rfl ?_
      exact sX7_write_J39 hX hT hGX hret hro h
    · rw [if_neg hc] at h
      refine jw_iconst (v := (1 : Int32)) hX dX7_write_35 (by decide) ?_
      refine jw_goto (tgt := 40) hX dX7_write_36 (by decide) ?_
      refine jw_sub [1, 2, 3, 0] [(0, .ref a), (1, .int v1), (2, .int v2), (3, .int t0)] rfl ?_
      exact sX7_write_J40 hX hT hGX hret hro h
set_option maxRecDepth 100000 in
set_option maxHeartbeats 4000000 in
theorem sX7_write_J21 {X : JX} {a : Nat} {ad : Nat → Nat} {cI cZ cO cJ : ClassId} {n : Nat} {post : Option Value → va_W → Prop} (hX : jOK X cX7_write 5 wsX7_write RX7 rmX7_write) (hT : jT X = jTy cI cZ cO cJ) (hGX : jG X jG0) (hret : jRZ X cX7_write rmX7_write post) {o : (Int32 × MW)}   (hro : ∀ (v9 : Int32) (w9 : MW), o = (v9, w9) → post (some (.int v9)) (mW a ad cI cZ w9)) {w : MW} {v1 v2 : Int32} (h : fX7_write_J21 n w v1 v2 = some o) : JW X 0 0 (mW a ad cI cZ w) 21 [(0, .ref a), (1, .int v1), (2, .int v2)] [] := by
  unfold fX7_write_J21 at h
  refine jw_iconst (v := (0 : Int32)) hX dX7_write_21 (by decide) ?_
  exact sX7_write_J22 hX hT hGX hret hro h
set_option maxRecDepth 100000 in
set_option maxHeartbeats 4000000 in
theorem sX7_write {X : JX} {a : Nat} {ad : Nat → Nat} {cI cZ cO cJ : ClassId} {n : Nat} {post : Option Value → va_W → Prop} (hX : jOK X cX7_write 5 wsX7_write RX7 rmX7_write) (hT : jT X = jTy cI cZ cO cJ) (hGX : jG X jG0) (hret : jRZ X cX7_write rmX7_write post) {o : (Int32 × MW)} (hro : ∀ (v9 : Int32) (w9 : MW), o = (v9, w9) → post (some (.int v9)) (mW a ad cI cZ w9)) {w : MW} {v1 : Int32} (h : fX7_write n w v1 = some o) : JW X 0 0 (mW a ad cI cZ w) 0 [(0, .ref a), (1, .int v1)] [] := by
  unfold fX7_write at h
  refine jw_aload_n hX dX7_write_0 rfl 0 rfl ?_
  refine jw_iload_n hX dX7_write_1 rfl 1 rfl ?_
  obtain ⟨r2, hc2, h⟩ := bP_some h
  refine jw_cVi (As := [.int v1]) hX jG0_ok hGX 1 (kX7_isEntry hT hc2) gX7_write_X7_isEntry rfl hdX7_isEntry ⟨by decide, by decide⟩ 0 7 rfl rfl rfl (by decide) dX7_write_2 rfl rfl ⟨by decide, by decide⟩ ?_
  refine jw_istore_n hX [(2, .int r2), (0, .ref a), (1, .int v1)] dX7_write_5 rfl (by decide) rfl ?_
  refine jw_iload_n hX dX7_write_6 rfl 0 rfl ?_
  refine jw_if_eq (tgt := 21) hX dX7_write_7 (by decide) (fun hc => ?_) (fun hc => ?_)
  · rw [if_pos hc] at h
    refine jw_sub [1, 2, 0] [(0, .ref a), (1, .int v1), (2, .int r2)] rfl ?_
    exact sX7_write_J21 hX hT hGX hret hro h
  · rw [if_neg hc] at h
    refine jw_aload_n hX dX7_write_10 rfl 1 rfl ?_
    obtain ⟨r11, w11, hc11, h⟩ := b2_some h
    refine jw_cVi (As := []) hX jG0_ok hGX 0 (kX7_canBe hT hc11) gX7_write_X7_canBe rfl hdX7_canBe ⟨by decide, by decide⟩ 0 7 rfl rfl rfl (by decide) dX7_write_11 rfl rfl ⟨by decide, by decide⟩ ?_
    refine jw_if_eq (tgt := 21) hX dX7_write_14 (by decide) (fun hc => ?_) (fun hc => ?_)
    · rw [if_pos hc] at h
      refine jw_sub [1, 2, 0] [(0, .ref a), (1, .int v1), (2, .int r2)] rfl ?_
      exact sX7_write_J21 hX hT hGX hret hro h
    · rw [if_neg hc] at h
      refine jw_iconst (v := (1 : Int32)) hX dX7_write_17 (by decide) ?_
      refine jw_goto (tgt := 22) hX dX7_write_18 (by decide) ?_
      refine jw_sub [1, 2, 0] [(0, .ref a), (1, .int v1), (2, .int r2)] rfl ?_
      exact sX7_write_J22 hX hT hGX hret hro h
set_option maxRecDepth 100000 in
set_option maxHeartbeats 4000000 in
theorem kX7_write {l : Launch} {D : va_G} {tys : List (ClassId × FieldType)} {a : Nat} {ad : Nat → Nat} {cI cZ cO cJ : ClassId} {n : Nat} {w : MW} {v1 : Int32} {r : Int32} {w1 : MW} (hT : tys = jTy cI cZ cO cJ) (h : fX7_write n w v1 = some (r, w1)) : CC l jG0 D tys yX7_write wsX7_write rmX7_write [.ref a, .int v1] (mW a ad cI cZ w) (fun ov w2 => ov = some (.int r) ∧ w2 = (mW a ad cI cZ w1)) := by
  refine CC_of (cc := cX7_write) (maxL := 5) (ret := (some .boolean)) (by decide) rfl (by decide) ?_
  intro X hD hL hT0 hGX hX rI rZ rV rA
  exact sX7_write hX (hT0.trans hT) hGX (fun cells slots w9 pc lv v => rZ cells slots w9 pc lv v rfl) (o := (r, w1)) (fun v9 w9 e9 => by cases e9; exact ⟨rfl, rfl⟩) h
/-! X7_strike -/
abbrev rmX7_strike : Room := { frames := 2, cells := 0, slots := 0, locals := 45 }
theorem hdX7_strike : yX7_strike.cls = RX7 ∧ yX7_strike.cls ≠ "java/lang/invoke/MethodHandle" ∧ yX7_strike.cls ≠ "java/lang/invoke/VarHandle" ∧ (parseMethodDescriptor yX7_strike.desc).map (fun d => d.parameters.length) = some 1 := by decide +kernel
theorem inX7_strike : ∀ w ∈ wsX70, w ∈ wsX7_strike := fun _ h => List.mem_cons_of_mem _ (List.mem_append_right _ h)
theorem lkX7_strike_126 : Cond.fieldLink RX7 126 "PostlintModel" (TX7 3).2.1 (TX7 3).2.2.1 ∈ wsX7_strike := by decide +kernel
theorem lkX7_strike_13 : Cond.fieldLink RX7 13 "PostlintModel" (TX7 4).2.1 (TX7 4).2.2.1 ∈ wsX7_strike := by decide +kernel
theorem lkX7_strike_17 : Cond.fieldLink RX7 17 "PostlintModel" (TX7 5).2.1 (TX7 5).2.2.1 ∈ wsX7_strike := by decide +kernel
theorem lkX7_strike_20 : Cond.fieldLink RX7 20 "PostlintModel" (TX7 6).2.1 (TX7 6).2.2.1 ∈ wsX7_strike := by decide +kernel
theorem lkX7_strike_23 : Cond.fieldLink RX7 23 "PostlintModel" (TX7 7).2.1 (TX7 7).2.2.1 ∈ wsX7_strike := by decide +kernel
theorem lkX7_strike_26 : Cond.fieldLink RX7 26 "PostlintModel" (TX7 8).2.1 (TX7 8).2.2.1 ∈ wsX7_strike := by decide +kernel
theorem lkX7_strike_29 : Cond.fieldLink RX7 29 "PostlintModel" (TX7 9).2.1 (TX7 9).2.2.1 ∈ wsX7_strike := by decide +kernel
def fX7_strike_L104 (n : Nat) : Nat → MW → Int32 → Int32 → Option (Int32)
  | 0, _, _, _ => none
  | k + 1, w, v3, v4 => (if (w.1 3) ≤ v4 then some (v3) else chk (inB v4 (mLen 4)) ((if (w.2 4 (v4).toNatClampNeg) = 0 then bnd ((v3 + (1 : Int32))) (fun y130 => fX7_strike_L104 n k w y130 ((v4 + (1 : Int32)))) else bnd ((v3 + (0 : Int32))) (fun y130 => fX7_strike_L104 n k w y130 ((v4 + (1 : Int32)))))))
def fX7_strike_J37 (n : Nat) (w : MW) (v1 t0 : Int32) : Option (Int32 × MW) := b2 (fX7_isOf w t0) (fun r37 w37 => (if ¬ r37 = 0 then chk (inB v1 (mLen 4)) (chk (b01 (1 : Int32)) (bnd (mA w37 4 (v1).toNatClampNeg (1 : Int32)) (fun w51 => chk (inB v1 (mLen 5)) (bnd (mA w51 5 (v1).toNatClampNeg (1 : Int32)) (fun w58 => chk (inB ((60 : Int32) * v1) (mLen 6)) (bnd (mA w58 6 (((60 : Int32) * v1)).toNatClampNeg (45 : Int32)) (fun w69 => chk (inB v1 (mLen 7)) (bnd (mA w69 7 (v1).toNatClampNeg (1 : Int32)) (fun w76 => chk (inB ((60 : Int32) * v1) (mLen 8)) (bnd (mA w76 8 (((60 : Int32) * v1)).toNatClampNeg (45 : Int32)) (fun w87 => chk (inB v1 (mLen 9)) (bnd (mA w87 9 (v1).toNatClampNeg (0 : Int32)) (fun w94 => bP (fX7_proves n w94 ) (fun w96 => bL1 (fX7_strike_L104 n n w96 (0 : Int32) (0 : Int32)) (fun x3_104 => some (x3_104, w96)))))))))))))))) else some ((0 : Int32), w37)))
def fX7_strike_J32 (n : Nat) (w : MW) (v1 : Int32) : Option (Int32 × MW) := fX7_strike_J37 n w v1 (2 : Int32)
def fX7_strike (n : Nat) (w : MW) (v1 : Int32) : Option (Int32 × MW) := bP (fX7_isEntry w v1) (fun r2 => (if ¬ r2 = 0 then chk (inB v1 (mLen 4)) ((if ¬ (w.2 4 (v1).toNatClampNeg) = 0 then fX7_strike_J32 n w v1 else bP (fX7_frozen n w v1) (fun r26 => (if r26 = 0 then fX7_strike_J37 n w v1 (0 : Int32) else fX7_strike_J32 n w v1)))) else fX7_strike_J37 n w v1 (1 : Int32)))
set_option maxRecDepth 100000 in
set_option maxHeartbeats 4000000 in
theorem sX7_strike_L104 {X : JX} {a : Nat} {ad : Nat → Nat} {cI cZ cO cJ : ClassId} {n : Nat} {post : Option Value → va_W → Prop} (hX : jOK X cX7_strike 5 wsX7_strike RX7 rmX7_strike) (hT : jT X = jTy cI cZ cO cJ) (hGX : jG X jG0) (hret : jRI X cX7_strike rmX7_strike post) {o : (Int32)} (hex : ∀ (x3 : Int32), o = x3 → JW X 0 0 (mW a ad cI cZ w) 137 [(3, .int x3)] [])  : ∀ (k : Nat) (w : MW) (v3 v4 : Int32), fX7_strike_L104 n k w v3 v4 = some o → JW X 0 0 (mW a ad cI cZ w) 104 [(0, .ref a), (3, .int v3), (4, .int v4)] [] := by
  intro k
  induction k with
  | zero => intro w v3 v4 h; cases h
  | succ k hrec0 =>
    intro w v3 v4 h
    have hrec := hrec0
    unfold fX7_strike_L104 at h
    refine jw_iload hX dX7_strike_104 2 rfl ?_
    refine jw_aload_n hX dX7_strike_106 rfl 0 rfl ?_
    refine jw_mgetI hX hT inX7_strike 3 (by decide) lkX7_strike_126 rfl dX7_strike_107 ?_
    refine jw_icmp_ge (tgt := 137) hX dX7_strike_110 (by decide) (fun hc => ?_) (fun hc => ?_)
    · rw [if_pos hc] at h
      refine jw_sub [1] [(3, .int v3)] rfl ?_
      exact hex _ (Option.some.inj h).symm
    · rw [if_neg hc] at h
      refine jw_iload_n hX dX7_strike_113 rfl 1 rfl ?_
      refine jw_aload_n hX dX7_strike_114 rfl 0 rfl ?_
      refine jw_mgetA hX hT inX7_strike 4 (by decide) lkX7_strike_13 rfl dX7_strike_115 ?_
      refine jw_iload hX dX7_strike_118 2 rfl ?_
      obtain ⟨hb120, h⟩ := chk_some h
      refine jw_mzald hX hT 1 4 rfl rfl hb120 dX7_strike_120 ?_
      refine jw_if_eq (tgt := 128) hX dX7_strike_121 (by decide) (fun hc => ?_) (fun hc => ?_)
      · rw [if_pos hc] at h
        refine jw_iconst (v := (1 : Int32)) hX dX7_strike_128 (by decide) ?_
        refine jw_iadd hX dX7_strike_129 ?_
        refine jw_topi (fun y130 e130 => ?_)
        replace h := bnd_some h y130 e130
        clear e130
        refine jw_istore_n hX [(3, .int y130), (0, .ref a), (4, .int v4)] dX7_strike_130 rfl (by decide) rfl ?_
        refine jw_iinc (v := (v4 + (1 : Int32))) hX [(4, .int (v4 + (1 : Int32))), (3, .int y130), (0, .ref a)] dX7_strike_131 2 rfl (by first | rfl | (congr 1; decide)) (by decide) rfl ?_
        refine jw_goto (tgt := 104) hX dX7_strike_134 (by decide) ?_
        refine jw_sub [2, 1, 0] [(0, .ref a), (3, .int y130), (4, .int (v4 + (1 : Int32)))] rfl ?_
        exact hrec _ _ _ h
      · rw [if_neg hc] at h
        refine jw_iconst (v := (0 : Int32)) hX dX7_strike_124 (by decide) ?_
        refine jw_goto (tgt := 129) hX dX7_strike_125 (by decide) ?_
        refine jw_iadd hX dX7_strike_129 ?_
        refine jw_topi (fun y130 e130 => ?_)
        replace h := bnd_some h y130 e130
        clear e130
        refine jw_istore_n hX [(3, .int y130), (0, .ref a), (4, .int v4)] dX7_strike_130 rfl (by decide) rfl ?_
        refine jw_iinc (v := (v4 + (1 : Int32))) hX [(4, .int (v4 + (1 : Int32))), (3, .int y130), (0, .ref a)] dX7_strike_131 2 rfl (by first | rfl | (congr 1; decide)) (by decide) rfl ?_
        refine jw_goto (tgt := 104) hX dX7_strike_134 (by decide) ?_
        refine jw_sub [2, 1, 0] [(0, .ref a), (3, .int y130), (4, .int (v4 + (1 : Int32)))] rfl ?_
        exact hrec _ _ _ h
set_option maxRecDepth 100000 in
set_option maxHeartbeats 4000000 in
theorem sX7_strike_J37 {X : JX} {a : Nat} {ad : Nat → Nat} {cI cZ cO cJ : ClassId} {n : Nat} {post : Option Value → va_W → Prop} (hX : jOK X cX7_strike 5 wsX7_strike RX7 rmX7_strike) (hT : jT X = jTy cI cZ cO cJ) (hGX : jG X jG0) (hret : jRI X cX7_strike rmX7_strike post) {o : (Int32 × MW)}   (hro : ∀ (v9 : Int32) (w9 : MW), o = (v9, w9) → post (some (.int v9)) (mW a ad cI cZ w9)) {w : MW} {v1 t0 : Int32} (h : fX7_strike_J37 n w v1 t0 = some o) : JW X 0 0 (mW a ad cI cZ w) 37 [(0, .ref a), (1, .int v1)] [.int t0, .ref a] := by
  unfold fX7_strike_J37 at h
  obtain ⟨r37, w37, hc37, h⟩ := b2_some h
  refine jw_cVi (As := [.int t0]) hX jG0_ok hGX 1 (kX7_isOf hT hc37) gX7_strike_X7_isOf rfl hdX7_isOf ⟨by decide, by decide⟩ 0 7 rfl rfl rfl (by decide) dX7_strike_37 rfl rfl ⟨by decide, by decide⟩ ?_
  refine jw_if_ne (tgt := 45) hX dX7_strike_40 (by decide) (fun hc => ?_) (fun hc => ?_)
  · rw [if_pos hc] at h
    refine jw_aload_n hX dX7_strike_45 rfl 0 rfl ?_
    refine jw_mgetA hX hT inX7_strike 4 (by decide) lkX7_strike_13 rfl dX7_strike_46 ?_
    refine jw_iload_n hX dX7_strike_49 rfl 1 rfl ?_
    refine jw_iconst (v := (1 : Int32)) hX dX7_strike_50 (by decide) ?_
    obtain ⟨hb51, h⟩ := chk_some h
    obtain ⟨hz51, h⟩ := chk_some h
    refine jw_mzast hX hT 1 4 rfl rfl hb51 hz51 dX7_strike_51 (fun w51 e51 => ?_)
    replace h := bnd_some h w51 e51
    clear e51
    refine jw_aload_n hX dX7_strike_52 rfl 0 rfl ?_
    refine jw_mgetA hX hT inX7_strike 5 (by decide) lkX7_strike_17 rfl dX7_strike_53 ?_
    refine jw_iload_n hX dX7_strike_56 rfl 1 rfl ?_
    refine jw_iconst (v := (1 : Int32)) hX dX7_strike_57 (by decide) ?_
    obtain ⟨hb58, h⟩ := chk_some h
    refine jw_miast hX hT 2 5 rfl rfl hb58 dX7_strike_58 (fun w58 e58 => ?_)
    replace h := bnd_some h w58 e58
    clear e58
    refine jw_aload_n hX dX7_strike_59 rfl 0 rfl ?_
    refine jw_mgetA hX hT inX7_strike 6 (by decide) lkX7_strike_20 rfl dX7_strike_60 ?_
    refine jw_bipush (v := (60 : Int32)) hX dX7_strike_63 (by decide) ?_
    refine jw_iload_n hX dX7_strike_65 rfl 1 rfl ?_
    refine jw_imul hX dX7_strike_66 ?_
    refine jw_bipush (v := (45 : Int32)) hX dX7_strike_67 (by decide) ?_
    obtain ⟨hb69, h⟩ := chk_some h
    refine jw_miast hX hT 3 6 rfl rfl hb69 dX7_strike_69 (fun w69 e69 => ?_)
    replace h := bnd_some h w69 e69
    clear e69
    refine jw_aload_n hX dX7_strike_70 rfl 0 rfl ?_
    refine jw_mgetA hX hT inX7_strike 7 (by decide) lkX7_strike_23 rfl dX7_strike_71 ?_
    refine jw_iload_n hX dX7_strike_74 rfl 1 rfl ?_
    refine jw_iconst (v := (1 : Int32)) hX dX7_strike_75 (by decide) ?_
    obtain ⟨hb76, h⟩ := chk_some h
    refine jw_miast hX hT 4 7 rfl rfl hb76 dX7_strike_76 (fun w76 e76 => ?_)
    replace h := bnd_some h w76 e76
    clear e76
    refine jw_aload_n hX dX7_strike_77 rfl 0 rfl ?_
    refine jw_mgetA hX hT inX7_strike 8 (by decide) lkX7_strike_26 rfl dX7_strike_78 ?_
    refine jw_bipush (v := (60 : Int32)) hX dX7_strike_81 (by decide) ?_
    refine jw_iload_n hX dX7_strike_83 rfl 1 rfl ?_
    refine jw_imul hX dX7_strike_84 ?_
    refine jw_bipush (v := (45 : Int32)) hX dX7_strike_85 (by decide) ?_
    obtain ⟨hb87, h⟩ := chk_some h
    refine jw_miast hX hT 5 8 rfl rfl hb87 dX7_strike_87 (fun w87 e87 => ?_)
    replace h := bnd_some h w87 e87
    clear e87
    refine jw_aload_n hX dX7_strike_88 rfl 0 rfl ?_
    refine jw_mgetA hX hT inX7_strike 9 (by decide) lkX7_strike_29 rfl dX7_strike_89 ?_
    refine jw_iload_n hX dX7_strike_92 rfl 1 rfl ?_
    refine jw_iconst (v := (0 : Int32)) hX dX7_strike_93 (by decide) ?_
    obtain ⟨hb94, h⟩ := chk_some h
    refine jw_miast hX hT 6 9 rfl rfl hb94 dX7_strike_94 (fun w94 e94 => ?_)
    replace h := bnd_some h w94 e94
    clear e94
    refine jw_aload_n hX dX7_strike_95 rfl 0 rfl ?_
    obtain ⟨w96, hc96, h⟩ := bP_some h
    refine jw_cVv (As := []) hX jG0_ok hGX 0 (kX7_proves hT hc96) gX7_strike_X7_proves rfl hdX7_proves ⟨by decide, by decide⟩ 0 7 rfl rfl rfl (by decide) dX7_strike_96 rfl rfl ⟨by decide, by decide⟩ ?_
    refine jw_iconst (v := (0 : Int32)) hX dX7_strike_99 (by decide) ?_
    refine jw_istore_n hX [(3, .int (0 : Int32)), (0, .ref a), (1, .int v1)] dX7_strike_100 rfl (by decide) rfl ?_
    refine jw_iconst (v := (0 : Int32)) hX dX7_strike_101 (by decide) ?_
    refine jw_istore hX [(4, .int (0 : Int32)), (3, .int (0 : Int32)), (0, .ref a), (1, .int v1)] dX7_strike_102 (by decide) rfl ?_
    refine jw_sub [2, 1, 0] [(0, .ref a), (3, .int (0 : Int32)), (4, .int (0 : Int32))] rfl ?_
    obtain ⟨x3_104, hl104, h⟩ := bL1_some h
    refine sX7_strike_L104 hX hT hGX hret (o := x3_104) (fun q0 e9 => ?_) n _ _ _ hl104
    cases e9
    refine jw_iload_n hX dX7_strike_137 rfl 0 rfl ?_
    exact hret _ _ _ _ _ _ (Nat.zero_le _) (Nat.zero_le _) dX7_strike_138 (hro _ _ (Option.some.inj h).symm)
  · rw [if_neg hc] at h
    refine jw_iconst (v := (0 : Int32)) hX dX7_strike_43 (by decide) ?_
    exact hret _ _ _ _ _ _ (Nat.zero_le _) (Nat.zero_le _) dX7_strike_44 (hro _ _ (Option.some.inj h).symm)
set_option maxRecDepth 100000 in
set_option maxHeartbeats 4000000 in
theorem sX7_strike_J32 {X : JX} {a : Nat} {ad : Nat → Nat} {cI cZ cO cJ : ClassId} {n : Nat} {post : Option Value → va_W → Prop} (hX : jOK X cX7_strike 5 wsX7_strike RX7 rmX7_strike) (hT : jT X = jTy cI cZ cO cJ) (hGX : jG X jG0) (hret : jRI X cX7_strike rmX7_strike post) {o : (Int32 × MW)}   (hro : ∀ (v9 : Int32) (w9 : MW), o = (v9, w9) → post (some (.int v9)) (mW a ad cI cZ w9)) {w : MW} {v1 : Int32} (h : fX7_strike_J32 n w v1 = some o) : JW X 0 0 (mW a ad cI cZ w) 32 [(0, .ref a), (1, .int v1)] [.ref a] := by
  unfold fX7_strike_J32 at h
  refine jw_iconst (v := (2 : Int32)) hX dX7_strike_32 (by decide) ?_
  refine jw_goto (tgt := 37) hX dX7_strike_33 (by decide) ?_
  exact sX7_strike_J37 hX hT hGX hret hro h
set_option maxRecDepth 100000 in
set_option maxHeartbeats 4000000 in
theorem sX7_strike {X : JX} {a : Nat} {ad : Nat → Nat} {cI cZ cO cJ : ClassId} {n : Nat} {post : Option Value → va_W → Prop} (hX : jOK X cX7_strike 5 wsX7_strike RX7 rmX7_strike) (hT : jT X = jTy cI cZ cO cJ) (hGX : jG X jG0) (hret : jRI X cX7_strike rmX7_strike post) {o : (Int32 × MW)} (hro : ∀ (v9 : Int32) (w9 : MW), o = (v9, w9) → post (some (.int v9)) (mW a ad cI cZ w9)) {w : MW} {v1 : Int32} (h : fX7_strike n w v1 = some o) : JW X 0 0 (mW a ad cI cZ w) 0 [(0, .ref a), (1, .int v1)] [] := by
  unfold fX7_strike at h
  refine jw_aload_n hX dX7_strike_0 rfl 0 rfl ?_
  refine jw_iload_n hX dX7_strike_1 rfl 1 rfl ?_
  obtain ⟨r2, hc2, h⟩ := bP_some h
  refine jw_cVi (As := [.int v1]) hX jG0_ok hGX 1 (kX7_isEntry hT hc2) gX7_strike_X7_isEntry rfl hdX7_isEntry ⟨by decide, by decide⟩ 0 7 rfl rfl rfl (by decide) dX7_strike_2 rfl rfl ⟨by decide, by decide⟩ ?_
  refine jw_istore_n hX [(2, .int r2), (0, .ref a), (1, .int v1)] dX7_strike_5 rfl (by decide) rfl ?_
  refine jw_aload_n hX dX7_strike_6 rfl 1 rfl ?_
  refine jw_iload_n hX dX7_strike_7 rfl 0 rfl ?_
  refine jw_if_ne (tgt := 15) hX dX7_strike_8 (by decide) (fun hc => ?_) (fun hc => ?_)
  · rw [if_pos hc] at h
    refine jw_aload_n hX dX7_strike_15 rfl 1 rfl ?_
    refine jw_mgetA hX hT inX7_strike 4 (by decide) lkX7_strike_13 rfl dX7_strike_16 ?_
    refine jw_iload_n hX dX7_strike_19 rfl 2 rfl ?_
    obtain ⟨hb20, h⟩ := chk_some h
    refine jw_mzald hX hT 1 4 rfl rfl hb20 dX7_strike_20 ?_
    refine jw_if_ne (tgt := 32) hX dX7_strike_21 (by decide) (fun hc => ?_) (fun hc => ?_)
    · rw [if_pos hc] at h
      refine jw_sub [1, 2] [(0, .ref a), (1, .int v1)] rfl ?_
      exact sX7_strike_J32 hX hT hGX hret hro h
    · rw [if_neg hc] at h
      refine jw_aload_n hX dX7_strike_24 rfl 1 rfl ?_
      refine jw_iload_n hX dX7_strike_25 rfl 2 rfl ?_
      obtain ⟨r26, hc26, h⟩ := bP_some h
      refine jw_cVi (As := [.int v1]) hX jG0_ok hGX 1 (kX7_frozen hT hc26) gX7_strike_X7_frozen rfl hdX7_frozen ⟨by decide, by decide⟩ 0 7 rfl rfl rfl (by decide) dX7_strike_26 rfl rfl ⟨by decide, by decide⟩ ?_
      refine jw_if_eq (tgt := 36) hX dX7_strike_29 (by decide) (fun hc => ?_) (fun hc => ?_)
      · rw [if_pos hc] at h
        refine jw_iconst (v := (0 : Int32)) hX dX7_strike_36 (by decide) ?_
        refine jw_sub [1, 2] [(0, .ref a), (1, .int v1)] rfl ?_
        exact sX7_strike_J37 hX hT hGX hret hro h
      · rw [if_neg hc] at h
        refine jw_sub [1, 2] [(0, .ref a), (1, .int v1)] rfl ?_
        exact sX7_strike_J32 hX hT hGX hret hro h
  · rw [if_neg hc] at h
    refine jw_iconst (v := (1 : Int32)) hX dX7_strike_11 (by decide) ?_
    refine jw_goto (tgt := 37) hX dX7_strike_12 (by decide) ?_
    refine jw_sub [1, 2] [(0, .ref a), (1, .int v1)] rfl ?_
    exact sX7_strike_J37 hX hT hGX hret hro h
set_option maxRecDepth 100000 in
set_option maxHeartbeats 4000000 in
theorem kX7_strike {l : Launch} {D : va_G} {tys : List (ClassId × FieldType)} {a : Nat} {ad : Nat → Nat} {cI cZ cO cJ : ClassId} {n : Nat} {w : MW} {v1 : Int32} {r : Int32} {w1 : MW} (hT : tys = jTy cI cZ cO cJ) (h : fX7_strike n w v1 = some (r, w1)) : CC l jG0 D tys yX7_strike wsX7_strike rmX7_strike [.ref a, .int v1] (mW a ad cI cZ w) (fun ov w2 => ov = some (.int r) ∧ w2 = (mW a ad cI cZ w1)) := by
  refine CC_of (cc := cX7_strike) (maxL := 5) (ret := (some .int)) (by decide) rfl (by decide) ?_
  intro X hD hL hT0 hGX hX rI rZ rV rA
  exact sX7_strike hX (hT0.trans hT) hGX (fun cells slots w9 pc lv v => rI cells slots w9 pc lv v rfl) (o := (r, w1)) (fun v9 w9 e9 => by cases e9; exact ⟨rfl, rfl⟩) h
