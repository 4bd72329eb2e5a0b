/-! X7_readsDraft -/
abbrev rmX7_readsDraft : Room := { frames := 3, cells := 0, slots := 0, locals := 74 }
theorem hdX7_readsDraft : yX7_readsDraft.cls = RX7 ∧ yX7_readsDraft.cls ≠ "java/lang/invoke/MethodHandle" ∧ yX7_readsDraft.cls ≠ "java/lang/invoke/VarHandle" ∧ (parseMethodDescriptor yX7_readsDraft.desc).map (fun d => d.parameters.length) = some 0 := by decide +kernel
theorem inX7_readsDraft : ∀ w ∈ wsX70, w ∈ wsX7_readsDraft := fun _ h => List.mem_cons_of_mem _ (List.mem_append_right _ h)
theorem lkX7_readsDraft_107 : Cond.fieldLink RX7 107 "PostlintModel" (TX7 41).2.1 (TX7 41).2.2.1 ∈ wsX7_readsDraft := by decide +kernel
theorem lkX7_readsDraft_110 : Cond.fieldLink RX7 110 "PostlintModel" (TX7 42).2.1 (TX7 42).2.2.1 ∈ wsX7_readsDraft := by decide +kernel
theorem lkX7_readsDraft_113 : Cond.fieldLink RX7 113 "PostlintModel" (TX7 43).2.1 (TX7 43).2.2.1 ∈ wsX7_readsDraft := by decide +kernel
theorem lkX7_readsDraft_116 : Cond.fieldLink RX7 116 "PostlintModel" (TX7 44).2.1 (TX7 44).2.2.1 ∈ wsX7_readsDraft := by decide +kernel
theorem lkX7_readsDraft_119 : Cond.fieldLink RX7 119 "PostlintModel" (TX7 46).2.1 (TX7 46).2.2.1 ∈ wsX7_readsDraft := by decide +kernel
theorem lkX7_readsDraft_133 : Cond.fieldLink RX7 133 "PostlintModel" (TX7 1).2.1 (TX7 1).2.2.1 ∈ wsX7_readsDraft := by decide +kernel
theorem lkX7_readsDraft_140 : Cond.fieldLink RX7 140 "PostlintModel" (TX7 40).2.1 (TX7 40).2.2.1 ∈ wsX7_readsDraft := by decide +kernel
theorem lkX7_readsDraft_147 : Cond.fieldLink RX7 147 "PostlintModel" (TX7 31).2.1 (TX7 31).2.2.1 ∈ wsX7_readsDraft := by decide +kernel
theorem lkX7_readsDraft_150 : Cond.fieldLink RX7 150 "PostlintModel" (TX7 38).2.1 (TX7 38).2.2.1 ∈ wsX7_readsDraft := by decide +kernel
theorem lkX7_readsDraft_167 : Cond.fieldLink RX7 167 "PostlintModel" (TX7 26).2.1 (TX7 26).2.2.1 ∈ wsX7_readsDraft := by decide +kernel
theorem lkX7_readsDraft_176 : Cond.fieldLink RX7 176 "PostlintModel" (TX7 45).2.1 (TX7 45).2.2.1 ∈ wsX7_readsDraft := by decide +kernel
theorem lkX7_readsDraft_7 : Cond.fieldLink RX7 7 "PostlintModel" (TX7 2).2.1 (TX7 2).2.2.1 ∈ wsX7_readsDraft := by decide +kernel
theorem lkX7_readsDraft_83 : Cond.fieldLink RX7 83 "PostlintModel" (TX7 30).2.1 (TX7 30).2.2.1 ∈ wsX7_readsDraft := by decide +kernel
theorem lkX7_readsDraft_92 : Cond.fieldLink RX7 92 "PostlintModel" (TX7 34).2.1 (TX7 34).2.2.1 ∈ wsX7_readsDraft := by decide +kernel
theorem lkX7_readsDraft_95 : Cond.fieldLink RX7 95 "PostlintModel" (TX7 35).2.1 (TX7 35).2.2.1 ∈ wsX7_readsDraft := by decide +kernel
def fX7_readsDraft_L129 (n : Nat) : Nat → MW → Int32 → Int32 → Int32 → Int32 → Option (Int32 × Int32 × Int32 × MW)
  | 0, _, _, _, _, _ => none
  | k + 1, w, v1, v2, v4, v5 => (if (w.1 26) ≤ v5 then some (v1, v2, v4, w) else chk (inB v5 (mLen 30)) (chk (inB v5 (mLen 30)) (bnd (mA w 30 (v5).toNatClampNeg ((w.2 30 (v5).toNatClampNeg) * v4)) (fun w149 => fX7_readsDraft_L129 n k w149 v1 v2 v4 ((v5 + (1 : Int32)))))))
def fX7_readsDraft_J119 (n : Nat) (rec : MW → Int32 → Int32 → Option (MW)) (w : MW) (v1 v2 t0 : Int32) : Option (MW) := chk (inB v1 (mLen 44)) (bnd ((w.2 44 (v1).toNatClampNeg)) (fun y127 => bL4 (fX7_readsDraft_L129 n n w v1 v2 t0 y127) (fun x1_129 x2_129 x4_129 wx129 => bP (fX7_closes n wx129 x1_129 x4_129) (fun w160 => rec w160 ((x1_129 + (-1 : Int32))) ((x2_129 + (1 : Int32)))))))
def fX7_readsDraft_J118 (n : Nat) (rec : MW → Int32 → Int32 → Option (MW)) (w : MW) (v1 v2 : Int32) : Option (MW) := fX7_readsDraft_J119 n (rec) w v1 v2 (1 : Int32)
def fX7_readsDraft_L31 (n : Nat) : Nat → MW → Int32 → Int32 → Option (MW)
  | 0, _, _, _ => none
  | k + 1, w, v1, v2 => (if (w.1 1) ≤ v2 then some (w) else chk (inB v2 (mLen 2)) (bnd ((w.2 2 (v2).toNatClampNeg)) (fun y45 => (if y45 = (40 : Int32) then chk (inB (v1 + (1 : Int32)) (mLen 42)) (bnd (mA w 42 ((v1 + (1 : Int32))).toNatClampNeg (0 : Int32)) (fun w61 => chk (inB (v1 + (1 : Int32)) (mLen 44)) (bnd (mA w61 44 ((v1 + (1 : Int32))).toNatClampNeg (w61.1 26)) (fun w71 => fX7_readsDraft_L31 n k w71 ((v1 + (1 : Int32))) ((v2 + (1 : Int32))))))) else (if y45 = (41 : Int32) then (if (w.1 1) ≤ (v2 + (1 : Int32)) then fX7_readsDraft_J118 n (fX7_readsDraft_L31 n k) w v1 v2 else chk (inB (v2 + (1 : Int32)) (mLen 2)) ((if (w.2 2 ((v2 + (1 : Int32))).toNatClampNeg) = (120 : Int32) then chk (inB (v2 + (2 : Int32)) (mLen 2)) (fX7_readsDraft_J119 n (fX7_readsDraft_L31 n k) w v1 v2 ((w.2 2 ((v2 + (2 : Int32))).toNatClampNeg) - (48 : Int32))) else fX7_readsDraft_J118 n (fX7_readsDraft_L31 n k) w v1 v2))) else bP (fX7_isIn y45 (97 : Int32) (104 : Int32)) (fun r174 => (if r174 = 0 then fX7_readsDraft_L31 n k w v1 ((v2 + (1 : Int32))) else bP (fX7_readsPosting n w v2 v1) (fun w183 => fX7_readsDraft_L31 n k w183 v1 ((v2 + (1 : Int32)))))))))))
def fX7_readsDraft_L244 (n : Nat) : Nat → MW → Int32 → Int32 → Int32 → Option (Int32 × MW)
  | 0, _, _, _, _ => none
  | k + 1, w, v2, v3, v4 => chk (inB v3 (mLen 35)) ((if (w.2 35 (v3).toNatClampNeg) ≤ v4 then some (v2, w) else chk (inB v3 (mLen 34)) (chk (inB ((w.2 34 (v3).toNatClampNeg) + v4) (mLen 41)) (chk (inB (w.1 45) (mLen 46)) (bnd (mA w 46 ((w.1 45)).toNatClampNeg (w.2 41 (((w.2 34 (v3).toNatClampNeg) + v4)).toNatClampNeg)) (fun w277 => bnd (mS w277 45 ((w277.1 45) + (1 : Int32))) (fun w285 => fX7_readsDraft_L244 n k w285 v2 v3 ((v4 + (1 : Int32))))))))))
def fX7_readsDraft_J241 (n : Nat) (rec : MW → Int32 → Option (MW)) (w : MW) (v2 v3 : Int32) : Option (MW) := bL2 (fX7_readsDraft_L244 n n w v2 v3 (0 : Int32)) (fun x2_244 wx244 => rec wx244 ((x2_244 + (1 : Int32))))
def fX7_readsDraft_L199 (n : Nat) : Nat → MW → Int32 → Option (MW)
  | 0, _, _ => none
  | k + 1, w, v2 => chk (inB (0 : Int32) (mLen 42)) ((if (w.2 42 ((0 : Int32)).toNatClampNeg) ≤ v2 then some (w) else chk (inB v2 (mLen 43)) (bnd ((w.2 43 (v2).toNatClampNeg)) (fun y215 => (if v2 ≤ 0 then fX7_readsDraft_J241 n (fX7_readsDraft_L199 n k) w v2 y215 else chk (inB (w.1 45) (mLen 46)) (bnd (mA w 46 ((w.1 45)).toNatClampNeg (32 : Int32)) (fun w230 => bnd (mS w230 45 ((w230.1 45) + (1 : Int32))) (fun w238 => fX7_readsDraft_J241 n (fX7_readsDraft_L199 n k) w238 v2 y215))))))))
def fX7_readsDraft (n : Nat) (w : MW) : Option MW := bnd (mS w 26 (0 : Int32)) (fun w2 => bnd (mS w2 31 (0 : Int32)) (fun w7 => bnd (mS w7 38 (0 : Int32)) (fun w12 => bnd (mS w12 40 (0 : Int32)) (fun w17 => chk (inB (0 : Int32) (mLen 42)) (bnd (mA w17 42 ((0 : Int32)).toNatClampNeg (0 : Int32)) (fun w28 => bL1 (fX7_readsDraft_L31 n n w28 (0 : Int32) (0 : Int32)) (fun wx31 => bnd (mS wx31 45 (0 : Int32)) (fun w194 => bL1 (fX7_readsDraft_L199 n n w194 (0 : Int32)) (fun wx199 => some wx199)))))))))
set_option maxRecDepth 100000 in
set_option maxHeartbeats 4000000 in
theorem sX7_readsDraft_L129 {X : JX} {a : Nat} {ad : Nat → Nat} {cI cZ cO cJ : ClassId} {n : Nat} {post : Option Value → va_W → Prop} (hX : jOK X cX7_readsDraft 6 wsX7_readsDraft RX7 rmX7_readsDraft) (hT : jT X = jTy cI cZ cO cJ) (hGX : jG X jG0) (hret : jRV X cX7_readsDraft rmX7_readsDraft post) {o : (Int32 × Int32 × Int32 × MW)} (hex : ∀ (x1 x2 x4 : Int32) (w9 : MW), o = (x1, x2, x4, w9) → JW X 0 0 (mW a ad cI cZ w9) 156 [(0, .ref a), (1, .int x1), (2, .int x2), (4, .int x4)] [])  : ∀ (k : Nat) (w : MW) (v1 v2 v4 v5 : Int32), fX7_readsDraft_L129 n k w v1 v2 v4 v5 = some o → JW X 0 0 (mW a ad cI cZ w) 129 [(0, .ref a), (1, .int v1), (2, .int v2), (4, .int v4), (5, .int v5)] [] := by
  intro k
  induction k with
  | zero => intro w v1 v2 v4 v5 h; cases h
  | succ k hrec0 =>
    intro w v1 v2 v4 v5 h
    have hrec := hrec0
    unfold fX7_readsDraft_L129 at h
    refine jw_iload hX dX7_readsDraft_129 4 rfl ?_
    refine jw_aload_n hX dX7_readsDraft_131 rfl 0 rfl ?_
    refine jw_mgetI hX hT inX7_readsDraft 26 (by decide) lkX7_readsDraft_167 rfl dX7_readsDraft_132 ?_
    refine jw_icmp_ge (tgt := 156) hX dX7_readsDraft_135 (by decide) (fun hc => ?_) (fun hc => ?_)
    · rw [if_pos hc] at h
      refine jw_sub [0, 1, 2, 3] [(0, .ref a), (1, .int v1), (2, .int v2), (4, .int v4)] rfl ?_
      exact hex _ _ _ _ (Option.some.inj h).symm
    · rw [if_neg hc] at h
      refine jw_aload_n hX dX7_readsDraft_138 rfl 0 rfl ?_
      refine jw_mgetA hX hT inX7_readsDraft 30 (by decide) lkX7_readsDraft_83 rfl dX7_readsDraft_139 ?_
      refine jw_iload hX dX7_readsDraft_142 4 rfl ?_
      refine jw_dup2 hX dX7_readsDraft_144 rfl rfl ?_
      obtain ⟨hb145, h⟩ := chk_some h
      refine jw_miald hX hT 24 30 rfl rfl hb145 dX7_readsDraft_145 ?_
      refine jw_iload hX dX7_readsDraft_146 3 rfl ?_
      refine jw_imul hX dX7_readsDraft_148 ?_
      obtain ⟨hb149, h⟩ := chk_some h
      refine jw_miast hX hT 24 30 rfl rfl hb149 dX7_readsDraft_149 (fun w149 e149 => ?_)
      replace h := bnd_some h w149 e149
      clear e149
      refine jw_iinc (v := (v5 + (1 : Int32))) hX [(5, .int (v5 + (1 : Int32))), (0, .ref a), (1, .int v1), (2, .int v2), (4, .int v4)] dX7_readsDraft_150 4 rfl (by first | rfl | (congr 1; decide)) (by decide) rfl ?_
      refine jw_goto (tgt := 129) hX dX7_readsDraft_153 (by decide) ?_
      refine jw_sub [1, 2, 3, 4, 0] [(0, .ref a), (1, .int v1), (2, .int v2), (4, .int v4), (5, .int (v5 + (1 : Int32)))] rfl ?_
      exact hrec _ _ _ _ _ h
set_option maxRecDepth 100000 in
set_option maxHeartbeats 4000000 in
theorem sX7_readsDraft_J119 {X : JX} {a : Nat} {ad : Nat → Nat} {cI cZ cO cJ : ClassId} {n : Nat} {post : Option Value → va_W → Prop} (hX : jOK X cX7_readsDraft 6 wsX7_readsDraft RX7 rmX7_readsDraft) (hT : jT X = jTy cI cZ cO cJ) (hGX : jG X jG0) (hret : jRV X cX7_readsDraft rmX7_readsDraft post) {o : (MW)} {rec : MW → Int32 → Int32 → Option (MW)} (hrec : ∀ (w : MW) (v1 v2 : Int32), rec w v1 v2 = some o → JW X 0 0 (mW a ad cI cZ w) 31 [(0, .ref a), (1, .int v1), (2, .int v2)] [])  (hex : ∀ (w9 : MW), o = w9 → JW X 0 0 (mW a ad cI cZ w9) 192 [(0, .ref a)] [])  {w : MW} {v1 v2 t0 : Int32} (h : fX7_readsDraft_J119 n rec w v1 v2 t0 = some o) : JW X 0 0 (mW a ad cI cZ w) 119 [(0, .ref a), (1, .int v1), (2, .int v2)] [.int t0] := by
  unfold fX7_readsDraft_J119 at h
  refine jw_istore hX [(4, .int t0), (0, .ref a), (1, .int v1), (2, .int v2)] dX7_readsDraft_119 (by decide) rfl ?_
  refine jw_aload_n hX dX7_readsDraft_121 rfl 1 rfl ?_
  refine jw_mgetA hX hT inX7_readsDraft 44 (by decide) lkX7_readsDraft_116 rfl dX7_readsDraft_122 ?_
  refine jw_iload_n hX dX7_readsDraft_125 rfl 2 rfl ?_
  obtain ⟨hb126, h⟩ := chk_some h
  refine jw_miald hX hT 35 44 rfl rfl hb126 dX7_readsDraft_126 ?_
  refine jw_topi (fun y127 e127 => ?_)
  replace h := bnd_some h y127 e127
  clear e127
  refine jw_istore hX [(5, .int y127), (4, .int t0), (0, .ref a), (1, .int v1), (2, .int v2)] dX7_readsDraft_127 (by decide) rfl ?_
  refine jw_sub [2, 3, 4, 1, 0] [(0, .ref a), (1, .int v1), (2, .int v2), (4, .int t0), (5, .int y127)] rfl ?_
  obtain ⟨x1_129, x2_129, x4_129, wx129, hl129, h⟩ := bL4_some h
  refine sX7_readsDraft_L129 hX hT hGX hret (o := (x1_129, x2_129, x4_129, wx129)) (fun q0 q1 q2 q3 e9 => ?_) n _ _ _ _ _ hl129
  cases e9
  refine jw_aload_n hX dX7_readsDraft_156 rfl 0 rfl ?_
  refine jw_iload_n hX dX7_readsDraft_157 rfl 1 rfl ?_
  refine jw_iload hX dX7_readsDraft_158 3 rfl ?_
  obtain ⟨w160, hc160, h⟩ := bP_some h
  refine jw_cVv (As := [.int x1_129, .int x4_129]) hX jG0_ok hGX 2 (kX7_closes hT hc160) gX7_readsDraft_X7_closes rfl hdX7_closes ⟨by decide, by decide⟩ 0 7 rfl rfl rfl (Nat.le_of_ble_eq_true rfl) dX7_readsDraft_160 rfl rfl ⟨by decide, by decide⟩ ?_
  refine jw_iinc (v := (x1_129 + (-1 : Int32))) hX [(1, .int (x1_129 + (-1 : Int32))), (0, .ref a), (2, .int x2_129), (4, .int x4_129)] dX7_readsDraft_163 1 rfl (by first | rfl | (congr 1; decide)) (by decide) rfl ?_
  refine jw_goto (tgt := 186) hX dX7_readsDraft_166 (by decide) ?_
  refine jw_iinc (v := (x2_129 + (1 : Int32))) hX [(2, .int (x2_129 + (1 : Int32))), (1, .int (x1_129 + (-1 : Int32))), (0, .ref a), (4, .int x4_129)] dX7_readsDraft_186 2 rfl (by first | rfl | (congr 1; decide)) (by decide) rfl ?_
  refine jw_goto (tgt := 31) hX dX7_readsDraft_189 (by decide) ?_
  refine jw_sub [2, 1, 0] [(0, .ref a), (1, .int (x1_129 + (-1 : Int32))), (2, .int (x2_129 + (1 : Int32)))] rfl ?_
  exact hrec _ _ _ h
set_option maxRecDepth 100000 in
set_option maxHeartbeats 4000000 in
theorem sX7_readsDraft_J118 {X : JX} {a : Nat} {ad : Nat → Nat} {cI cZ cO cJ : ClassId} {n : Nat} {post : Option Value → va_W → Prop} (hX : jOK X cX7_readsDraft 6 wsX7_readsDraft RX7 rmX7_readsDraft) (hT : jT X = jTy cI cZ cO cJ) (hGX : jG X jG0) (hret : jRV X cX7_readsDraft rmX7_readsDraft post) {o : (MW)} {rec : MW → Int32 → Int32 → Option (MW)} (hrec : ∀ (w : MW) (v1 v2 : Int32), rec w v1 v2 = some o → JW X 0 0 (mW a ad cI cZ w) 31 [(0, .ref a), (1, .int v1), (2, .int v2)] [])  (hex : ∀ (w9 : MW), o = w9 → JW X 0 0 (mW a ad cI cZ w9) 192 [(0, .ref a)] [])  {w : MW} {v1 v2 : Int32} (h : fX7_readsDraft_J118 n rec w v1 v2 = some o) : JW X 0 0 (mW a ad cI cZ w) 118 [(0, .ref a), (1, .int v1), (2, .int v2)] [] := by
  unfold fX7_readsDraft_J118 at h
  refine jw_iconst (v := (1 : Int32)) hX dX7_readsDraft_118 (by decide) ?_
  exact sX7_readsDraft_J119 hX hT hGX hret hrec hex h
set_option maxRecDepth 100000 in
set_option maxHeartbeats 4000000 in
theorem sX7_readsDraft_L31 {X : JX} {a : Nat} {ad : Nat → Nat} {cI cZ cO cJ : ClassId} {n : Nat} {post : Option Value → va_W → Prop} (hX : jOK X cX7_readsDraft 6 wsX7_readsDraft RX7 rmX7_readsDraft) (hT : jT X = jTy cI cZ cO cJ) (hGX : jG X jG0) (hret : jRV X cX7_readsDraft rmX7_readsDraft post) {o : (MW)} (hex : ∀ (w9 : MW), o = w9 → JW X 0 0 (mW a ad cI cZ w9) 192 [(0, .ref a)] [])  : ∀ (k : Nat) (w : MW) (v1 v2 : Int32), fX7_readsDraft_L31 n k w v1 v2 = some o → JW X 0 0 (mW a ad cI cZ w) 31 [(0, .ref a), (1, .int v1), (2, .int v2)] [] := by
  intro k
  induction k with
  | zero => intro w v1 v2 h; cases h
  | succ k hrec0 =>
    intro w v1 v2 h
    have hrec := hrec0
    unfold fX7_readsDraft_L31 at h
    refine jw_iload_n hX dX7_readsDraft_31 rfl 2 rfl ?_
    refine jw_aload_n hX dX7_readsDraft_32 rfl 0 rfl ?_
    refine jw_mgetI hX hT inX7_readsDraft 1 (by decide) lkX7_readsDraft_133 rfl dX7_readsDraft_33 ?_
    refine jw_icmp_ge (tgt := 192) hX dX7_readsDraft_36 (by decide) (fun hc => ?_) (fun hc => ?_)
    · rw [if_pos hc] at h
      refine jw_sub [0] [(0, .ref a)] rfl ?_
      exact hex _ (Option.some.inj h).symm
    · rw [if_neg hc] at h
      refine jw_aload_n hX dX7_readsDraft_39 rfl 0 rfl ?_
      refine jw_mgetA hX hT inX7_readsDraft 2 (by decide) lkX7_readsDraft_7 rfl dX7_readsDraft_40 ?_
      refine jw_iload_n hX dX7_readsDraft_43 rfl 2 rfl ?_
      obtain ⟨hb44, h⟩ := chk_some h
      refine jw_miald hX hT 0 2 rfl rfl hb44 dX7_readsDraft_44 ?_
      refine jw_topi (fun y45 e45 => ?_)
      replace h := bnd_some h y45 e45
      clear e45
      refine jw_istore_n hX [(3, .int y45), (0, .ref a), (1, .int v1), (2, .int v2)] dX7_readsDraft_45 rfl (by decide) rfl ?_
      refine jw_iload_n hX dX7_readsDraft_46 rfl 0 rfl ?_
      refine jw_bipush (v := (40 : Int32)) hX dX7_readsDraft_47 (by decide) ?_
      refine jw_icmp_ne (tgt := 75) hX dX7_readsDraft_49 (by decide) (fun hc => ?_) (fun hc => ?_)
      · rw [if_neg hc] at h
        refine jw_iload_n hX dX7_readsDraft_75 rfl 0 rfl ?_
        refine jw_bipush (v := (41 : Int32)) hX dX7_readsDraft_76 (by decide) ?_
        refine jw_icmp_ne (tgt := 169) hX dX7_readsDraft_78 (by decide) (fun hc => ?_) (fun hc => ?_)
        · rw [if_neg hc] at h
          refine jw_iload_n hX dX7_readsDraft_169 rfl 0 rfl ?_
          refine jw_bipush (v := (97 : Int32)) hX dX7_readsDraft_170 (by decide) ?_
          refine jw_bipush (v := (104 : Int32)) hX dX7_readsDraft_172 (by decide) ?_
          obtain ⟨r174, hc174, h⟩ := bP_some h
          refine jw_cSi (As := [.int y45, .int (97 : Int32), .int (104 : Int32)]) hX jG0_ok hGX 3 (kX7_isIn hT hc174) gX7_readsDraft_X7_isIn rfl hdX7_isIn ⟨by decide, by decide⟩ rfl (Nat.le_of_ble_eq_true rfl) dX7_readsDraft_174 rfl rfl ⟨by decide, by decide⟩ ?_
          refine jw_if_eq (tgt := 186) hX dX7_readsDraft_177 (by decide) (fun hc => ?_) (fun hc => ?_)
          · rw [if_pos hc] at h
            refine jw_iinc (v := (v2 + (1 : Int32))) hX [(2, .int (v2 + (1 : Int32))), (3, .int y45), (0, .ref a), (1, .int v1)] dX7_readsDraft_186 3 rfl (by first | rfl | (congr 1; decide)) (by decide) rfl ?_
            refine jw_goto (tgt := 31) hX dX7_readsDraft_189 (by decide) ?_
            refine jw_sub [2, 3, 0] [(0, .ref a), (1, .int v1), (2, .int (v2 + (1 : Int32)))] rfl ?_
            exact hrec _ _ _ h
          · rw [if_neg hc] at h
            refine jw_aload_n hX dX7_readsDraft_180 rfl 1 rfl ?_
            refine jw_iload_n hX dX7_readsDraft_181 rfl 3 rfl ?_
            refine jw_iload_n hX dX7_readsDraft_182 rfl 2 rfl ?_
            obtain ⟨w183, hc183, h⟩ := bP_some h
            refine jw_cVv (As := [.int v2, .int v1]) hX jG0_ok hGX 2 (kX7_readsPosting hT hc183) gX7_readsDraft_X7_readsPosting rfl hdX7_readsPosting ⟨by decide, by decide⟩ 0 7 rfl rfl rfl (Nat.le_of_ble_eq_true rfl) dX7_readsDraft_183 rfl rfl ⟨by decide, by decide⟩ ?_
            refine jw_iinc (v := (v2 + (1 : Int32))) hX [(2, .int (v2 + (1 : Int32))), (3, .int y45), (0, .ref a), (1, .int v1)] dX7_readsDraft_186 3 rfl (by first | rfl | (congr 1; decide)) (by decide) rfl ?_
            refine jw_goto (tgt := 31) hX dX7_readsDraft_189 (by decide) ?_
            refine jw_sub [2, 3, 0] [(0, .ref a), (1, .int v1), (2, .int (v2 + (1 : Int32)))] rfl ?_
            exact hrec _ _ _ h
        · rw [if_pos hc] at h
          refine jw_iload_n hX dX7_readsDraft_81 rfl 3 rfl ?_
          refine jw_iconst (v := (1 : Int32)) hX dX7_readsDraft_82 (by decide) ?_
          refine jw_iadd hX dX7_readsDraft_83 ?_
          refine jw_aload_n hX dX7_readsDraft_84 rfl 1 rfl ?_
          refine jw_mgetI hX hT inX7_readsDraft 1 (by decide) lkX7_readsDraft_133 rfl dX7_readsDraft_85 ?_
          refine jw_icmp_ge (tgt := 118) hX dX7_readsDraft_88 (by decide) (fun hc => ?_) (fun hc => ?_)
          · rw [if_pos hc] at h
            refine jw_sub [1, 2, 3] [(0, .ref a), (1, .int v1), (2, .int v2)] rfl ?_
            exact sX7_readsDraft_J118 hX hT hGX hret hrec hex h
          · rw [if_neg hc] at h
            refine jw_aload_n hX dX7_readsDraft_91 rfl 1 rfl ?_
            refine jw_mgetA hX hT inX7_readsDraft 2 (by decide) lkX7_readsDraft_7 rfl dX7_readsDraft_92 ?_
            refine jw_iload_n hX dX7_readsDraft_95 rfl 3 rfl ?_
            refine jw_iconst (v := (1 : Int32)) hX dX7_readsDraft_96 (by decide) ?_
            refine jw_iadd hX dX7_readsDraft_97 ?_
            obtain ⟨hb98, h⟩ := chk_some h
            refine jw_miald hX hT 0 2 rfl rfl hb98 dX7_readsDraft_98 ?_
            refine jw_bipush (v := (120 : Int32)) hX dX7_readsDraft_99 (by decide) ?_
            refine jw_icmp_ne (tgt := 118) hX dX7_readsDraft_101 (by decide) (fun hc => ?_) (fun hc => ?_)
            · rw [if_neg hc] at h
              refine jw_sub [1, 2, 3] [(0, .ref a), (1, .int v1), (2, .int v2)] rfl ?_
              exact sX7_readsDraft_J118 hX hT hGX hret hrec hex h
            · rw [if_pos hc] at h
              refine jw_aload_n hX dX7_readsDraft_104 rfl 1 rfl ?_
              refine jw_mgetA hX hT inX7_readsDraft 2 (by decide) lkX7_readsDraft_7 rfl dX7_readsDraft_105 ?_
              refine jw_iload_n hX dX7_readsDraft_108 rfl 3 rfl ?_
              refine jw_iconst (v := (2 : Int32)) hX dX7_readsDraft_109 (by decide) ?_
              refine jw_iadd hX dX7_readsDraft_110 ?_
              obtain ⟨hb111, h⟩ := chk_some h
              refine jw_miald hX hT 0 2 rfl rfl hb111 dX7_readsDraft_111 ?_
              refine jw_bipush (v := (48 : Int32)) hX dX7_readsDraft_112 (by decide) ?_
              refine jw_isub hX dX7_readsDraft_114 ?_
              refine jw_goto (tgt := 119) hX dX7_readsDraft_115 (by decide) ?_
              refine jw_sub [1, 2, 3] [(0, .ref a), (1, .int v1), (2, .int v2)] rfl ?_
              exact sX7_readsDraft_J119 hX hT hGX hret hrec hex h
      · rw [if_pos hc] at h
        refine jw_iinc (v := (v1 + (1 : Int32))) hX [(1, .int (v1 + (1 : Int32))), (3, .int y45), (0, .ref a), (2, .int v2)] dX7_readsDraft_52 2 rfl (by first | rfl | (congr 1; decide)) (by decide) rfl ?_
        refine jw_aload_n hX dX7_readsDraft_55 rfl 2 rfl ?_
        refine jw_mgetA hX hT inX7_readsDraft 42 (by decide) lkX7_readsDraft_110 rfl dX7_readsDraft_56 ?_
        refine jw_iload_n hX dX7_readsDraft_59 rfl 0 rfl ?_
        refine jw_iconst (v := (0 : Int32)) hX dX7_readsDraft_60 (by decide) ?_
        obtain ⟨hb61, h⟩ := chk_some h
        refine jw_miast hX hT 33 42 rfl rfl hb61 dX7_readsDraft_61 (fun w61 e61 => ?_)
        replace h := bnd_some h w61 e61
        clear e61
        refine jw_aload_n hX dX7_readsDraft_62 rfl 2 rfl ?_
        refine jw_mgetA hX hT inX7_readsDraft 44 (by decide) lkX7_readsDraft_116 rfl dX7_readsDraft_63 ?_
        refine jw_iload_n hX dX7_readsDraft_66 rfl 0 rfl ?_
        refine jw_aload_n hX dX7_readsDraft_67 rfl 2 rfl ?_
        refine jw_mgetI hX hT inX7_readsDraft 26 (by decide) lkX7_readsDraft_167 rfl dX7_readsDraft_68 ?_
        obtain ⟨hb71, h⟩ := chk_some h
        refine jw_miast hX hT 35 44 rfl rfl hb71 dX7_readsDraft_71 (fun w71 e71 => ?_)
        replace h := bnd_some h w71 e71
        clear e71
        refine jw_goto (tgt := 186) hX dX7_readsDraft_72 (by decide) ?_
        refine jw_iinc (v := (v2 + (1 : Int32))) hX [(2, .int (v2 + (1 : Int32))), (1, .int (v1 + (1 : Int32))), (3, .int y45), (0, .ref a)] dX7_readsDraft_186 3 rfl (by first | rfl | (congr 1; decide)) (by decide) rfl ?_
        refine jw_goto (tgt := 31) hX dX7_readsDraft_189 (by decide) ?_
        refine jw_sub [3, 1, 0] [(0, .ref a), (1, .int (v1 + (1 : Int32))), (2, .int (v2 + (1 : Int32)))] rfl ?_
        exact hrec _ _ _ h
set_option maxRecDepth 100000 in
set_option maxHeartbeats 4000000 in
theorem sX7_readsDraft_L244 {X : JX} {a : Nat} {ad : Nat → Nat} {cI cZ cO cJ : ClassId} {n : Nat} {post : Option Value → va_W → Prop} (hX : jOK X cX7_readsDraft 6 wsX7_readsDraft RX7 rmX7_readsDraft) (hT : jT X = jTy cI cZ cO cJ) (hGX : jG X jG0) (hret : jRV X cX7_readsDraft rmX7_readsDraft post) {o : (Int32 × MW)} (hex : ∀ (x2 : Int32) (w9 : MW), o = (x2, w9) → JW X 0 0 (mW a ad cI cZ w9) 294 [(0, .ref a), (2, .int x2)] [])  : ∀ (k : Nat) (w : MW) (v2 v3 v4 : Int32), fX7_readsDraft_L244 n k w v2 v3 v4 = some o → JW X 0 0 (mW a ad cI cZ w) 244 [(0, .ref a), (2, .int v2), (3, .int v3), (4, .int v4)] [] := by
  intro k
  induction k with
  | zero => intro w v2 v3 v4 h; cases h
  | succ k hrec0 =>
    intro w v2 v3 v4 h
    have hrec := hrec0
    unfold fX7_readsDraft_L244 at h
    refine jw_iload hX dX7_readsDraft_244 3 rfl ?_
    refine jw_aload_n hX dX7_readsDraft_246 rfl 0 rfl ?_
    refine jw_mgetA hX hT inX7_readsDraft 35 (by decide) lkX7_readsDraft_95 rfl dX7_readsDraft_247 ?_
    refine jw_iload_n hX dX7_readsDraft_250 rfl 2 rfl ?_
    obtain ⟨hb251, h⟩ := chk_some h
    refine jw_miald hX hT 28 35 rfl rfl hb251 dX7_readsDraft_251 ?_
    refine jw_icmp_ge (tgt := 294) hX dX7_readsDraft_252 (by decide) (fun hc => ?_) (fun hc => ?_)
    · rw [if_pos hc] at h
      refine jw_sub [0, 1] [(0, .ref a), (2, .int v2)] rfl ?_
      exact hex _ _ (Option.some.inj h).symm
    · rw [if_neg hc] at h
      refine jw_aload_n hX dX7_readsDraft_255 rfl 0 rfl ?_
      refine jw_mgetA hX hT inX7_readsDraft 46 (by decide) lkX7_readsDraft_119 rfl dX7_readsDraft_256 ?_
      refine jw_aload_n hX dX7_readsDraft_259 rfl 0 rfl ?_
      refine jw_mgetI hX hT inX7_readsDraft 45 (by decide) lkX7_readsDraft_176 rfl dX7_readsDraft_260 ?_
      refine jw_aload_n hX dX7_readsDraft_263 rfl 0 rfl ?_
      refine jw_mgetA hX hT inX7_readsDraft 41 (by decide) lkX7_readsDraft_107 rfl dX7_readsDraft_264 ?_
      refine jw_aload_n hX dX7_readsDraft_267 rfl 0 rfl ?_
      refine jw_mgetA hX hT inX7_readsDraft 34 (by decide) lkX7_readsDraft_92 rfl dX7_readsDraft_268 ?_
      refine jw_iload_n hX dX7_readsDraft_271 rfl 2 rfl ?_
      obtain ⟨hb272, h⟩ := chk_some h
      refine jw_miald hX hT 27 34 rfl rfl hb272 dX7_readsDraft_272 ?_
      refine jw_iload hX dX7_readsDraft_273 3 rfl ?_
      refine jw_iadd hX dX7_readsDraft_275 ?_
      obtain ⟨hb276, h⟩ := chk_some h
      refine jw_miald hX hT 32 41 rfl rfl hb276 dX7_readsDraft_276 ?_
      obtain ⟨hb277, h⟩ := chk_some h
      refine jw_miast hX hT 36 46 rfl rfl hb277 dX7_readsDraft_277 (fun w277 e277 => ?_)
      replace h := bnd_some h w277 e277
      clear e277
      refine jw_aload_n hX dX7_readsDraft_278 rfl 0 rfl ?_
      refine jw_dup hX dX7_readsDraft_279 rfl ?_
      refine jw_mgetI hX hT inX7_readsDraft 45 (by decide) lkX7_readsDraft_176 rfl dX7_readsDraft_280 ?_
      refine jw_iconst (v := (1 : Int32)) hX dX7_readsDraft_283 (by decide) ?_
      refine jw_iadd hX dX7_readsDraft_284 ?_
      refine jw_mputI hX hT inX7_readsDraft 45 (by decide) lkX7_readsDraft_176 rfl dX7_readsDraft_285 (fun w285 e285 => ?_)
      replace h := bnd_some h w285 e285
      clear e285
      refine jw_iinc (v := (v4 + (1 : Int32))) hX [(4, .int (v4 + (1 : Int32))), (0, .ref a), (2, .int v2), (3, .int v3)] dX7_readsDraft_288 3 rfl (by first | rfl | (congr 1; decide)) (by decide) rfl ?_
      refine jw_goto (tgt := 244) hX dX7_readsDraft_291 (by decide) ?_
      refine jw_sub [1, 2, 3, 0] [(0, .ref a), (2, .int v2), (3, .int v3), (4, .int (v4 + (1 : Int32)))] rfl ?_
      exact hrec _ _ _ _ h
set_option maxRecDepth 100000 in
set_option maxHeartbeats 4000000 in
theorem sX7_readsDraft_J241 {X : JX} {a : Nat} {ad : Nat → Nat} {cI cZ cO cJ : ClassId} {n : Nat} {post : Option Value → va_W → Prop} (hX : jOK X cX7_readsDraft 6 wsX7_readsDraft RX7 rmX7_readsDraft) (hT : jT X = jTy cI cZ cO cJ) (hGX : jG X jG0) (hret : jRV X cX7_readsDraft rmX7_readsDraft post) {o : (MW)} {rec : MW → Int32 → Option (MW)} (hrec : ∀ (w : MW) (v2 : Int32), rec w v2 = some o → JW X 0 0 (mW a ad cI cZ w) 199 [(0, .ref a), (2, .int v2)] [])  (hex : ∀ (w9 : MW), o = w9 → JW X 0 0 (mW a ad cI cZ w9) 300 [] [])  {w : MW} {v2 v3 : Int32} (h : fX7_readsDraft_J241 n rec w v2 v3 = some o) : JW X 0 0 (mW a ad cI cZ w) 241 [(0, .ref a), (2, .int v2), (3, .int v3)] [] := by
  unfold fX7_readsDraft_J241 at h
  refine jw_iconst (v := (0 : Int32)) hX dX7_readsDraft_241 (by decide) ?_
  refine jw_istore hX [(4, .int (0 : Int32)), (0, .ref a), (2, .int v2), (3, .int v3)] dX7_readsDraft_242 (by decide) rfl ?_
  refine jw_sub [1, 2, 3, 0] [(0, .ref a), (2, .int v2), (3, .int v3), (4, .int (0 : Int32))] rfl ?_
  obtain ⟨x2_244, wx244, hl244, h⟩ := bL2_some h
  refine sX7_readsDraft_L244 hX hT hGX hret (o := (x2_244, wx244)) (fun q0 q1 e9 => ?_) n _ _ _ _ hl244
  cases e9
  refine jw_iinc (v := (x2_244 + (1 : Int32))) hX [(2, .int (x2_244 + (1 : Int32))), (0, .ref a)] dX7_readsDraft_294 1 rfl (by first | rfl | (congr 1; decide)) (by decide) rfl ?_
  refine jw_goto (tgt := 199) hX dX7_readsDraft_297 (by decide) ?_
  refine jw_sub [1, 0] [(0, .ref a), (2, .int (x2_244 + (1 : Int32)))] rfl ?_
  exact hrec _ _ h
set_option maxRecDepth 100000 in
set_option maxHeartbeats 4000000 in
theorem sX7_readsDraft_L199 {X : JX} {a : Nat} {ad : Nat → Nat} {cI cZ cO cJ : ClassId} {n : Nat} {post : Option Value → va_W → Prop} (hX : jOK X cX7_readsDraft 6 wsX7_readsDraft RX7 rmX7_readsDraft) (hT : jT X = jTy cI cZ cO cJ) (hGX : jG X jG0) (hret : jRV X cX7_readsDraft rmX7_readsDraft post) {o : (MW)} (hex : ∀ (w9 : MW), o = w9 → JW X 0 0 (mW a ad cI cZ w9) 300 [] [])  : ∀ (k : Nat) (w : MW) (v2 : Int32), fX7_readsDraft_L199 n k w v2 = some o → JW X 0 0 (mW a ad cI cZ w) 199 [(0, .ref a), (2, .int v2)] [] := by
  intro k
  induction k with
  | zero => intro w v2 h; cases h
  | succ k hrec0 =>
    intro w v2 h
    have hrec := hrec0
    unfold fX7_readsDraft_L199 at h
    refine jw_iload_n hX dX7_readsDraft_199 rfl 1 rfl ?_
    refine jw_aload_n hX dX7_readsDraft_200 rfl 0 rfl ?_
    refine jw_mgetA hX hT inX7_readsDraft 42 (by decide) lkX7_readsDraft_110 rfl dX7_readsDraft_201 ?_
    refine jw_iconst (v := (0 : Int32)) hX dX7_readsDraft_204 (by decide) ?_
    obtain ⟨hb205, h⟩ := chk_some h
    refine jw_miald hX hT 33 42 rfl rfl hb205 dX7_readsDraft_205 ?_
    refine jw_icmp_ge (tgt := 300) hX dX7_readsDraft_206 (by decide) (fun hc => ?_) (fun hc => ?_)
    · rw [if_pos hc] at h
      refine jw_sub [] [] rfl ?_
      exact hex _ (Option.some.inj h).symm
    · rw [if_neg hc] at h
      refine jw_aload_n hX dX7_readsDraft_209 rfl 0 rfl ?_
      refine jw_mgetA hX hT inX7_readsDraft 43 (by decide) lkX7_readsDraft_113 rfl dX7_readsDraft_210 ?_
      refine jw_iload_n hX dX7_readsDraft_213 rfl 1 rfl ?_
      obtain ⟨hb214, h⟩ := chk_some h
      refine jw_miald hX hT 34 43 rfl rfl hb214 dX7_readsDraft_214 ?_
      refine jw_topi (fun y215 e215 => ?_)
      replace h := bnd_some h y215 e215
      clear e215
      refine jw_istore_n hX [(3, .int y215), (0, .ref a), (2, .int v2)] dX7_readsDraft_215 rfl (by decide) rfl ?_
      refine jw_iload_n hX dX7_readsDraft_216 rfl 2 rfl ?_
      refine jw_if_le (tgt := 241) hX dX7_readsDraft_217 (by decide) (fun hc => ?_) (fun hc => ?_)
      · rw [if_pos hc] at h
        refine jw_sub [1, 2, 0] [(0, .ref a), (2, .int v2), (3, .int y215)] rfl ?_
        exact sX7_readsDraft_J241 hX hT hGX hret hrec hex h
      · rw [if_neg hc] at h
        refine jw_aload_n hX dX7_readsDraft_220 rfl 1 rfl ?_
        refine jw_mgetA hX hT inX7_readsDraft 46 (by decide) lkX7_readsDraft_119 rfl dX7_readsDraft_221 ?_
        refine jw_aload_n hX dX7_readsDraft_224 rfl 1 rfl ?_
        refine jw_mgetI hX hT inX7_readsDraft 45 (by decide) lkX7_readsDraft_176 rfl dX7_readsDraft_225 ?_
        refine jw_bipush (v := (32 : Int32)) hX dX7_readsDraft_228 (by decide) ?_
        obtain ⟨hb230, h⟩ := chk_some h
        refine jw_miast hX hT 36 46 rfl rfl hb230 dX7_readsDraft_230 (fun w230 e230 => ?_)
        replace h := bnd_some h w230 e230
        clear e230
        refine jw_aload_n hX dX7_readsDraft_231 rfl 1 rfl ?_
        refine jw_dup hX dX7_readsDraft_232 rfl ?_
        refine jw_mgetI hX hT inX7_readsDraft 45 (by decide) lkX7_readsDraft_176 rfl dX7_readsDraft_233 ?_
        refine jw_iconst (v := (1 : Int32)) hX dX7_readsDraft_236 (by decide) ?_
        refine jw_iadd hX dX7_readsDraft_237 ?_
        refine jw_mputI hX hT inX7_readsDraft 45 (by decide) lkX7_readsDraft_176 rfl dX7_readsDraft_238 (fun w238 e238 => ?_)
        replace h := bnd_some h w238 e238
        clear e238
        refine jw_sub [1, 2, 0] [(0, .ref a), (2, .int v2), (3, .int y215)] rfl ?_
        exact sX7_readsDraft_J241 hX hT hGX hret hrec hex h
set_option maxRecDepth 100000 in
set_option maxHeartbeats 4000000 in
theorem sX7_readsDraft {X : JX} {a : Nat} {ad : Nat → Nat} {cI cZ cO cJ : ClassId} {n : Nat} {post : Option Value → va_W → Prop} (hX : jOK X cX7_readsDraft 6 wsX7_readsDraft RX7 rmX7_readsDraft) (hT : jT X = jTy cI cZ cO cJ) (hGX : jG X jG0) (hret : jRV X cX7_readsDraft rmX7_readsDraft post) {o : MW} (hro : ∀ w9 : MW, o = w9 → post none (mW a ad cI cZ w9)) {w : MW} (h : fX7_readsDraft n w  = some o) : JW X 0 0 (mW a ad cI cZ w) 0 [(0, .ref a)] [] := by
  unfold fX7_readsDraft at h
  refine jw_aload_n hX dX7_readsDraft_0 rfl 0 rfl ?_
  refine jw_iconst (v := (0 : Int32)) hX dX7_readsDraft_1 (by decide) ?_
  refine jw_mputI hX hT inX7_readsDraft 26 (by decide) lkX7_readsDraft_167 rfl dX7_readsDraft_2 (fun w2 e2 => ?_)
  replace h := bnd_some h w2 e2
  clear e2
  refine jw_aload_n hX dX7_readsDraft_5 rfl 0 rfl ?_
  refine jw_iconst (v := (0 : Int32)) hX dX7_readsDraft_6 (by decide) ?_
  refine jw_mputI hX hT inX7_readsDraft 31 (by decide) lkX7_readsDraft_147 rfl dX7_readsDraft_7 (fun w7 e7 => ?_)
  replace h := bnd_some h w7 e7
  clear e7
  refine jw_aload_n hX dX7_readsDraft_10 rfl 0 rfl ?_
  refine jw_iconst (v := (0 : Int32)) hX dX7_readsDraft_11 (by decide) ?_
  refine jw_mputI hX hT inX7_readsDraft 38 (by decide) lkX7_readsDraft_150 rfl dX7_readsDraft_12 (fun w12 e12 => ?_)
  replace h := bnd_some h w12 e12
  clear e12
  refine jw_aload_n hX dX7_readsDraft_15 rfl 0 rfl ?_
  refine jw_iconst (v := (0 : Int32)) hX dX7_readsDraft_16 (by decide) ?_
  refine jw_mputI hX hT inX7_readsDraft 40 (by decide) lkX7_readsDraft_140 rfl dX7_readsDraft_17 (fun w17 e17 => ?_)
  replace h := bnd_some h w17 e17
  clear e17
  refine jw_iconst (v := (0 : Int32)) hX dX7_readsDraft_20 (by decide) ?_
  refine jw_istore_n hX [(1, .int (0 : Int32)), (0, .ref a)] dX7_readsDraft_21 rfl (by decide) rfl ?_
  refine jw_aload_n hX dX7_readsDraft_22 rfl 1 rfl ?_
  refine jw_mgetA hX hT inX7_readsDraft 42 (by decide) lkX7_readsDraft_110 rfl dX7_readsDraft_23 ?_
  refine jw_iconst (v := (0 : Int32)) hX dX7_readsDraft_26 (by decide) ?_
  refine jw_iconst (v := (0 : Int32)) hX dX7_readsDraft_27 (by decide) ?_
  obtain ⟨hb28, h⟩ := chk_some h
  refine jw_miast hX hT 33 42 rfl rfl hb28 dX7_readsDraft_28 (fun w28 e28 => ?_)
  replace h := bnd_some h w28 e28
  clear e28
  refine jw_iconst (v := (0 : Int32)) hX dX7_readsDraft_29 (by decide) ?_
  refine jw_istore_n hX [(2, .int (0 : Int32)), (1, .int (0 : Int32)), (0, .ref a)] dX7_readsDraft_30 rfl (by decide) rfl ?_
  refine jw_sub [2, 1, 0] [(0, .ref a), (1, .int (0 : Int32)), (2, .int (0 : Int32))] rfl ?_
  obtain ⟨wx31, hl31, h⟩ := bL1_some h
  refine sX7_readsDraft_L31 hX hT hGX hret (o := wx31) (fun q0 e9 => ?_) n _ _ _ hl31
  cases e9
  refine jw_aload_n hX dX7_readsDraft_192 rfl 0 rfl ?_
  refine jw_iconst (v := (0 : Int32)) hX dX7_readsDraft_193 (by decide) ?_
  refine jw_mputI hX hT inX7_readsDraft 45 (by decide) lkX7_readsDraft_176 rfl dX7_readsDraft_194 (fun w194 e194 => ?_)
  replace h := bnd_some h w194 e194
  clear e194
  refine jw_iconst (v := (0 : Int32)) hX dX7_readsDraft_197 (by decide) ?_
  refine jw_istore_n hX [(2, .int (0 : Int32)), (0, .ref a)] dX7_readsDraft_198 rfl (by decide) rfl ?_
  refine jw_sub [1, 0] [(0, .ref a), (2, .int (0 : Int32))] rfl ?_
  obtain ⟨wx199, hl199, h⟩ := bL1_some h
  refine sX7_readsDraft_L199 hX hT hGX hret (o := wx199) (fun q0 e9 => ?_) n _ _ hl199
  cases e9
  exact hret _ _ _ _ _ (Nat.zero_le _) (Nat.zero_le _) dX7_readsDraft_300 (hro _ (Option.some.inj h).symm)
set_option maxRecDepth 100000 in
set_option maxHeartbeats 4000000 in
theorem kX7_readsDraft {l : Launch} {D : va_G} {tys : List (ClassId × FieldType)} {a : Nat} {ad : Nat → Nat} {cI cZ cO cJ : ClassId} {n : Nat} {w : MW}  {w1 : MW} (hT : tys = jTy cI cZ cO cJ) (h : fX7_readsDraft n w  = some w1) : CC l jG0 D tys yX7_readsDraft wsX7_readsDraft rmX7_readsDraft [.ref a] (mW a ad cI cZ w) (fun ov w2 => ov = none ∧ w2 = (mW a ad cI cZ w1)) := by
  refine CC_of (cc := cX7_readsDraft) (maxL := 6) (ret := none) (by decide) rfl (Nat.le_of_ble_eq_true rfl) ?_
  intro X hD hL hT0 hGX hX rI rZ rV rA
  exact sX7_readsDraft (post := fun ov w2 => ov = none ∧ w2 = (mW a ad cI cZ w1)) hX (hT0.trans hT) hGX (fun cells slots w9 pc lv => rV cells slots w9 pc lv rfl) (o := w1) (fun w9 e9 => by cases e9; exact ⟨rfl, rfl⟩) h
/-! X7_readCount -/
abbrev rmX7_readCount : Room := { frames := 0, cells := 0, slots := 0, locals := 0 }
theorem hdX7_readCount : yX7_readCount.cls = RX7 ∧ yX7_readCount.cls ≠ "java/lang/invoke/MethodHandle" ∧ yX7_readCount.cls ≠ "java/lang/invoke/VarHandle" ∧ (parseMethodDescriptor yX7_readCount.desc).map (fun d => d.parameters.length) = some 0 := by decide +kernel
theorem inX7_readCount : ∀ w ∈ wsX70, w ∈ wsX7_readCount := fun _ h => List.mem_cons_of_mem _ (List.mem_append_right _ h)
theorem lkX7_readCount_167 : Cond.fieldLink RX7 167 "PostlintModel" (TX7 26).2.1 (TX7 26).2.2.1 ∈ wsX7_readCount := by decide +kernel
theorem lkX7_readCount_83 : Cond.fieldLink RX7 83 "PostlintModel" (TX7 30).2.1 (TX7 30).2.2.1 ∈ wsX7_readCount := by decide +kernel
def fX7_readCount_L4 (n : Nat) : Nat → MW → Int32 → Int32 → Option (Int32)
  | 0, _, _, _ => none
  | k + 1, w, v1, v2 => (if (w.1 26) ≤ v2 then some (v1) else chk (inB v2 (mLen 30)) (bnd ((v1 + (w.2 30 (v2).toNatClampNeg))) (fun y20 => fX7_readCount_L4 n k w y20 ((v2 + (1 : Int32))))))
def fX7_readCount (n : Nat) (w : MW) : Option Int32 := bL1 (fX7_readCount_L4 n n w (0 : Int32) (0 : Int32)) (fun x1_4 => some x1_4)
set_option maxRecDepth 100000 in
set_option maxHeartbeats 4000000 in
theorem sX7_readCount_L4 {X : JX} {a : Nat} {ad : Nat → Nat} {cI cZ cO cJ : ClassId} {n : Nat} {w : MW} {post : Option Value → va_W → Prop} (hX : jOK X cX7_readCount 3 wsX7_readCount RX7 rmX7_readCount) (hT : jT X = jTy cI cZ cO cJ) (hGX : jG X jG0) (hret : jRI X cX7_readCount rmX7_readCount post) {o : (Int32)} (hex : ∀ (x1 : Int32), o = x1 → JW X 0 0 (mW a ad cI cZ w) 27 [(1, .int x1)] [])  : ∀ (k : Nat) (v1 v2 : Int32), fX7_readCount_L4 n k w v1 v2 = some o → JW X 0 0 (mW a ad cI cZ w) 4 [(0, .ref a), (1, .int v1), (2, .int v2)] [] := by
  intro k
  induction k with
  | zero => intro v1 v2 h; cases h
  | succ k hrec0 =>
    intro v1 v2 h
    have hrec := fun (_ : MW) => hrec0
    unfold fX7_readCount_L4 at h
    refine jw_iload_n hX dX7_readCount_4 rfl 2 rfl ?_
    refine jw_aload_n hX dX7_readCount_5 rfl 0 rfl ?_
    refine jw_mgetI hX hT inX7_readCount 26 (by decide) lkX7_readCount_167 rfl dX7_readCount_6 ?_
    refine jw_icmp_ge (tgt := 27) hX dX7_readCount_9 (by decide) (fun hc => ?_) (fun hc => ?_)
    · rw [if_pos hc] at h
      refine jw_sub [1] [(1, .int v1)] rfl ?_
      exact hex _ (Option.some.inj h).symm
    · rw [if_neg hc] at h
      refine jw_iload_n hX dX7_readCount_12 rfl 1 rfl ?_
      refine jw_aload_n hX dX7_readCount_13 rfl 0 rfl ?_
      refine jw_mgetA hX hT inX7_readCount 30 (by decide) lkX7_readCount_83 rfl dX7_readCount_14 ?_
      refine jw_iload_n hX dX7_readCount_17 rfl 2 rfl ?_
      obtain ⟨hb18, h⟩ := chk_some h
      refine jw_miald hX hT 24 30 rfl rfl hb18 dX7_readCount_18 ?_
      refine jw_iadd hX dX7_readCount_19 ?_
      refine jw_topi (fun y20 e20 => ?_)
      replace h := bnd_some h y20 e20
      clear e20
      refine jw_istore_n hX [(1, .int y20), (0, .ref a), (2, .int v2)] dX7_readCount_20 rfl (by decide) rfl ?_
      refine jw_iinc (v := (v2 + (1 : Int32))) hX [(2, .int (v2 + (1 : Int32))), (1, .int y20), (0, .ref a)] dX7_readCount_21 2 rfl (by first | rfl | (congr 1; decide)) (by decide) rfl ?_
      refine jw_goto (tgt := 4) hX dX7_readCount_24 (by decide) ?_
      refine jw_sub [2, 1, 0] [(0, .ref a), (1, .int y20), (2, .int (v2 + (1 : Int32)))] rfl ?_
      exact hrec w _ _ h
set_option maxRecDepth 100000 in
set_option maxHeartbeats 4000000 in
theorem sX7_readCount {X : JX} {a : Nat} {ad : Nat → Nat} {cI cZ cO cJ : ClassId} {n : Nat} {w : MW} {post : Option Value → va_W → Prop} (hX : jOK X cX7_readCount 3 wsX7_readCount RX7 rmX7_readCount) (hT : jT X = jTy cI cZ cO cJ) (hGX : jG X jG0) (hret : jRI X cX7_readCount rmX7_readCount post) {o : Int32} (hro : ∀ v9 : Int32, o = v9 → post (some (.int v9)) (mW a ad cI cZ w)) (h : fX7_readCount n w  = some o) : JW X 0 0 (mW a ad cI cZ w) 0 [(0, .ref a)] [] := by
  unfold fX7_readCount at h
  refine jw_iconst (v := (0 : Int32)) hX dX7_readCount_0 (by decide) ?_
  refine jw_istore_n hX [(1, .int (0 : Int32)), (0, .ref a)] dX7_readCount_1 rfl (by decide) rfl ?_
  refine jw_iconst (v := (0 : Int32)) hX dX7_readCount_2 (by decide) ?_
  refine jw_istore_n hX [(2, .int (0 : Int32)), (1, .int (0 : Int32)), (0, .ref a)] dX7_readCount_3 rfl (by decide) rfl ?_
  refine jw_sub [2, 1, 0] [(0, .ref a), (1, .int (0 : Int32)), (2, .int (0 : Int32))] rfl ?_
  obtain ⟨x1_4, hl4, h⟩ := bL1_some h
  refine sX7_readCount_L4 hX hT hGX hret (o := x1_4) (fun q0 e9 => ?_) n _ _ hl4
  cases e9
  refine jw_iload_n hX dX7_readCount_27 rfl 0 rfl ?_
  exact hret _ _ _ _ _ _ (Nat.zero_le _) (Nat.zero_le _) dX7_readCount_28 (hro _ (Option.some.inj h).symm)
set_option maxRecDepth 100000 in
set_option maxHeartbeats 4000000 in
theorem kX7_readCount {l : Launch} {D : va_G} {tys : List (ClassId × FieldType)} {a : Nat} {ad : Nat → Nat} {cI cZ cO cJ : ClassId} {n : Nat} {w : MW}  {r : Int32} (hT : tys = jTy cI cZ cO cJ) (h : fX7_readCount n w  = some r) : CC l jG0 D tys yX7_readCount wsX7_readCount rmX7_readCount [.ref a] (mW a ad cI cZ w) (fun ov w2 => ov = some (.int r) ∧ w2 = (mW a ad cI cZ w)) := by
  refine CC_of (cc := cX7_readCount) (maxL := 3) (ret := (some .int)) (by decide) rfl (Nat.le_of_ble_eq_true rfl) ?_
  intro X hD hL hT0 hGX hX rI rZ rV rA
  exact sX7_readCount (post := fun ov w2 => ov = some (.int r) ∧ w2 = (mW a ad cI cZ w)) hX (hT0.trans hT) hGX (fun cells slots w9 pc lv v => rI cells slots w9 pc lv v rfl) (o := r) (fun v9 e9 => by cases e9; exact ⟨rfl, rfl⟩) h
/-! X7_canBe -/
abbrev rmX7_canBe : Room := { frames := 4, cells := 0, slots := 0, locals := 99 }
theorem hdX7_canBe : yX7_canBe.cls = RX7 ∧ yX7_canBe.cls ≠ "java/lang/invoke/MethodHandle" ∧ yX7_canBe.cls ≠ "java/lang/invoke/VarHandle" ∧ (parseMethodDescriptor yX7_canBe.desc).map (fun d => d.parameters.length) = some 0 := by decide +kernel
def fX7_canBe (n : Nat) (w : MW) : Option (Int32 × MW) := bP (fX7_draftFault n w ) (fun r1 => (if r1 = (-1 : Int32) then bP (fX7_readsDraft n w ) (fun w11 => bP (fX7_readCount n w11 ) (fun r15 => (if (60 : Int32) < r15 then chk (b01 (0 : Int32)) (some ((0 : Int32), w11)) else chk (b01 (1 : Int32)) (some ((1 : Int32), w11))))) else chk (b01 (0 : Int32)) (some ((0 : Int32), w))))
set_option maxRecDepth 100000 in
set_option maxHeartbeats 4000000 in
theorem sX7_canBe {X : JX} {a : Nat} {ad : Nat → Nat} {cI cZ cO cJ : ClassId} {n : Nat} {post : Option Value → va_W → Prop} (hX : jOK X cX7_canBe 1 wsX7_canBe RX7 rmX7_canBe) (hT : jT X = jTy cI cZ cO cJ) (hGX : jG X jG0) (hret : jRZ X cX7_canBe rmX7_canBe post) {o : (Int32 × MW)} (hro : ∀ (v9 : Int32) (w9 : MW), o = (v9, w9) → post (some (.int v9)) (mW a ad cI cZ w9)) {w : MW} (h : fX7_canBe n w  = some o) : JW X 0 0 (mW a ad cI cZ w) 0 [(0, .ref a)] [] := by
  unfold fX7_canBe at h
  refine jw_aload_n hX dX7_canBe_0 rfl 0 rfl ?_
  obtain ⟨r1, hc1, h⟩ := bP_some h
  refine jw_cVi (As := []) hX jG0_ok hGX 0 (kX7_draftFault hT hc1) gX7_canBe_X7_draftFault rfl hdX7_draftFault ⟨by decide, by decide⟩ 0 7 rfl rfl rfl (Nat.le_of_ble_eq_true rfl) dX7_canBe_1 rfl rfl ⟨by decide, by decide⟩ ?_
  refine jw_iconst (v := (-1 : Int32)) hX dX7_canBe_4 (by decide) ?_
  refine jw_icmp_eq (tgt := 10) hX dX7_canBe_5 (by decide) (fun hc => ?_) (fun hc => ?_)
  · rw [if_pos hc] at h
    refine jw_aload_n hX dX7_canBe_10 rfl 0 rfl ?_
    obtain ⟨w11, hc11, h⟩ := bP_some h
    refine jw_cVv (As := []) hX jG0_ok hGX 0 (kX7_readsDraft hT hc11) gX7_canBe_X7_readsDraft rfl hdX7_readsDraft ⟨by decide, by decide⟩ 0 7 rfl rfl rfl (Nat.le_of_ble_eq_true rfl) dX7_canBe_11 rfl rfl ⟨by decide, by decide⟩ ?_
    refine jw_aload_n hX dX7_canBe_14 rfl 0 rfl ?_
    obtain ⟨r15, hc15, h⟩ := bP_some h
    refine jw_cVi (As := []) hX jG0_ok hGX 0 (kX7_readCount hT hc15) gX7_canBe_X7_readCount rfl hdX7_readCount ⟨by decide, by decide⟩ 0 7 rfl rfl rfl (Nat.le_of_ble_eq_true rfl) dX7_canBe_15 rfl rfl ⟨by decide, by decide⟩ ?_
    refine jw_bipush (v := (60 : Int32)) hX dX7_canBe_18 (by decide) ?_
    refine jw_icmp_gt (tgt := 27) hX dX7_canBe_20 (by decide) (fun hc => ?_) (fun hc => ?_)
    · rw [if_pos hc] at h
      refine jw_iconst (v := (0 : Int32)) hX dX7_canBe_27 (by decide) ?_
      obtain ⟨hz28, h⟩ := chk_some h
      exact hret _ _ _ _ _ _ (b01_or hz28) (Nat.zero_le _) (Nat.zero_le _) dX7_canBe_28 (hro _ _ (Option.some.inj h).symm)
    · rw [if_neg hc] at h
      refine jw_iconst (v := (1 : Int32)) hX dX7_canBe_23 (by decide) ?_
      refine jw_goto (tgt := 28) hX dX7_canBe_24 (by decide) ?_
      obtain ⟨hz28, h⟩ := chk_some h
      exact hret _ _ _ _ _ _ (b01_or hz28) (Nat.zero_le _) (Nat.zero_le _) dX7_canBe_28 (hro _ _ (Option.some.inj h).symm)
  · rw [if_neg hc] at h
    refine jw_iconst (v := (0 : Int32)) hX dX7_canBe_8 (by decide) ?_
    obtain ⟨hz9, h⟩ := chk_some h
    exact hret _ _ _ _ _ _ (b01_or hz9) (Nat.zero_le _) (Nat.zero_le _) dX7_canBe_9 (hro _ _ (Option.some.inj h).symm)
set_option maxRecDepth 100000 in
set_option maxHeartbeats 4000000 in
theorem kX7_canBe {l : Launch} {D : va_G} {tys : List (ClassId × FieldType)} {a : Nat} {ad : Nat → Nat} {cI cZ cO cJ : ClassId} {n : Nat} {w : MW}  {r : Int32} {w1 : MW} (hT : tys = jTy cI cZ cO cJ) (h : fX7_canBe n w  = some (r, w1)) : CC l jG0 D tys yX7_canBe wsX7_canBe rmX7_canBe [.ref a] (mW a ad cI cZ w) (fun ov w2 => ov = some (.int r) ∧ w2 = (mW a ad cI cZ w1)) := by
  refine CC_of (cc := cX7_canBe) (maxL := 1) (ret := (some .boolean)) (by decide) rfl (Nat.le_of_ble_eq_true rfl) ?_
  intro X hD hL hT0 hGX hX rI rZ rV rA
  exact sX7_canBe (post := fun ov w2 => ov = some (.int r) ∧ w2 = (mW a ad cI cZ w1)) hX (hT0.trans hT) hGX (fun cells slots w9 pc lv v => rZ cells slots w9 pc lv v rfl) (o := (r, w1)) (fun v9 w9 e9 => by cases e9; exact ⟨rfl, rfl⟩) h
