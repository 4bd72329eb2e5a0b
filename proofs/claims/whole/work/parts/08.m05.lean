/-! X7_lays -/
abbrev rmX7_lays : Room := { frames := 0, cells := 0, slots := 0, locals := 0 }
theorem hdX7_lays : yX7_lays.cls = RX7 ∧ yX7_lays.cls ≠ "java/lang/invoke/MethodHandle" ∧ yX7_lays.cls ≠ "java/lang/invoke/VarHandle" ∧ (parseMethodDescriptor yX7_lays.desc).map (fun d => d.parameters.length) = some 1 := by decide +kernel
theorem inX7_lays : ∀ w ∈ wsX70, w ∈ wsX7_lays := fun _ h => List.mem_cons_of_mem _ (List.mem_append_right _ h)
theorem lkX7_lays_119 : Cond.fieldLink RX7 119 "PostlintModel" (TX7 46).2.1 (TX7 46).2.2.1 ∈ wsX7_lays := by decide +kernel
theorem lkX7_lays_13 : Cond.fieldLink RX7 13 "PostlintModel" (TX7 4).2.1 (TX7 4).2.2.1 ∈ wsX7_lays := by decide +kernel
theorem lkX7_lays_133 : Cond.fieldLink RX7 133 "PostlintModel" (TX7 1).2.1 (TX7 1).2.2.1 ∈ wsX7_lays := by decide +kernel
theorem lkX7_lays_167 : Cond.fieldLink RX7 167 "PostlintModel" (TX7 26).2.1 (TX7 26).2.2.1 ∈ wsX7_lays := by decide +kernel
theorem lkX7_lays_17 : Cond.fieldLink RX7 17 "PostlintModel" (TX7 5).2.1 (TX7 5).2.2.1 ∈ wsX7_lays := by decide +kernel
theorem lkX7_lays_176 : Cond.fieldLink RX7 176 "PostlintModel" (TX7 45).2.1 (TX7 45).2.2.1 ∈ wsX7_lays := by decide +kernel
theorem lkX7_lays_20 : Cond.fieldLink RX7 20 "PostlintModel" (TX7 6).2.1 (TX7 6).2.2.1 ∈ wsX7_lays := by decide +kernel
theorem lkX7_lays_23 : Cond.fieldLink RX7 23 "PostlintModel" (TX7 7).2.1 (TX7 7).2.2.1 ∈ wsX7_lays := by decide +kernel
theorem lkX7_lays_26 : Cond.fieldLink RX7 26 "PostlintModel" (TX7 8).2.1 (TX7 8).2.2.1 ∈ wsX7_lays := by decide +kernel
theorem lkX7_lays_29 : Cond.fieldLink RX7 29 "PostlintModel" (TX7 9).2.1 (TX7 9).2.2.1 ∈ wsX7_lays := by decide +kernel
theorem lkX7_lays_32 : Cond.fieldLink RX7 32 "PostlintModel" (TX7 10).2.1 (TX7 10).2.2.1 ∈ wsX7_lays := by decide +kernel
theorem lkX7_lays_35 : Cond.fieldLink RX7 35 "PostlintModel" (TX7 11).2.1 (TX7 11).2.2.1 ∈ wsX7_lays := by decide +kernel
theorem lkX7_lays_38 : Cond.fieldLink RX7 38 "PostlintModel" (TX7 12).2.1 (TX7 12).2.2.1 ∈ wsX7_lays := by decide +kernel
theorem lkX7_lays_41 : Cond.fieldLink RX7 41 "PostlintModel" (TX7 13).2.1 (TX7 13).2.2.1 ∈ wsX7_lays := by decide +kernel
theorem lkX7_lays_7 : Cond.fieldLink RX7 7 "PostlintModel" (TX7 2).2.1 (TX7 2).2.2.1 ∈ wsX7_lays := by decide +kernel
theorem lkX7_lays_74 : Cond.fieldLink RX7 74 "PostlintModel" (TX7 27).2.1 (TX7 27).2.2.1 ∈ wsX7_lays := by decide +kernel
theorem lkX7_lays_77 : Cond.fieldLink RX7 77 "PostlintModel" (TX7 28).2.1 (TX7 28).2.2.1 ∈ wsX7_lays := by decide +kernel
theorem lkX7_lays_80 : Cond.fieldLink RX7 80 "PostlintModel" (TX7 29).2.1 (TX7 29).2.2.1 ∈ wsX7_lays := by decide +kernel
theorem lkX7_lays_83 : Cond.fieldLink RX7 83 "PostlintModel" (TX7 30).2.1 (TX7 30).2.2.1 ∈ wsX7_lays := by decide +kernel
def fX7_lays_L19 (n : Nat) : Nat → MW → Int32 → Int32 → Option (Int32 × MW)
  | 0, _, _, _ => none
  | k + 1, w, v1, v2 => (if (w.1 1) ≤ v2 then some (v1, w) else chk (inB v2 (mLen 2)) (chk (inB (((60 : Int32) * v1) + v2) (mLen 6)) (bnd (mA w 6 ((((60 : Int32) * v1) + v2)).toNatClampNeg (w.2 2 (v2).toNatClampNeg)) (fun w43 => fX7_lays_L19 n k w43 v1 ((v2 + (1 : Int32)))))))
def fX7_lays_L62 (n : Nat) : Nat → MW → Int32 → Int32 → Option (Int32 × MW)
  | 0, _, _, _ => none
  | k + 1, w, v1, v2 => (if (w.1 45) ≤ v2 then some (v1, w) else chk (inB v2 (mLen 46)) (chk (inB (((60 : Int32) * v1) + v2) (mLen 8)) (bnd (mA w 8 ((((60 : Int32) * v1) + v2)).toNatClampNeg (w.2 46 (v2).toNatClampNeg)) (fun w86 => fX7_lays_L62 n k w86 v1 ((v2 + (1 : Int32)))))))
def fX7_lays_L105 (n : Nat) : Nat → MW → Int32 → Int32 → Option (MW)
  | 0, _, _, _ => none
  | k + 1, w, v1, v2 => (if (w.1 26) ≤ v2 then some (w) else chk (inB v2 (mLen 27)) (chk (inB (((16 : Int32) * v1) + v2) (mLen 10)) (bnd (mA w 10 ((((16 : Int32) * v1) + v2)).toNatClampNeg (w.2 27 (v2).toNatClampNeg)) (fun w129 => chk (inB v2 (mLen 28)) (chk (inB (((16 : Int32) * v1) + v2) (mLen 11)) (chk (b01 (w129.2 28 (v2).toNatClampNeg)) (bnd (mA w129 11 ((((16 : Int32) * v1) + v2)).toNatClampNeg (w129.2 28 (v2).toNatClampNeg)) (fun w146 => chk (inB v2 (mLen 29)) (chk (inB (((16 : Int32) * v1) + v2) (mLen 12)) (bnd (mA w146 12 ((((16 : Int32) * v1) + v2)).toNatClampNeg (w146.2 29 (v2).toNatClampNeg)) (fun w163 => chk (inB v2 (mLen 30)) (chk (inB (((16 : Int32) * v1) + v2) (mLen 13)) (bnd (mA w163 13 ((((16 : Int32) * v1) + v2)).toNatClampNeg (w163.2 30 (v2).toNatClampNeg)) (fun w180 => fX7_lays_L105 n k w180 v1 ((v2 + (1 : Int32)))))))))))))))))
def fX7_lays (n : Nat) (w : MW) (v1 : Int32) : Option MW := chk (inB v1 (mLen 4)) (chk (b01 (0 : Int32)) (bnd (mA w 4 (v1).toNatClampNeg (0 : Int32)) (fun w6 => chk (inB v1 (mLen 5)) (bnd (mA w6 5 (v1).toNatClampNeg (w6.1 1)) (fun w16 => bL2 (fX7_lays_L19 n n w16 v1 (0 : Int32)) (fun x1_19 wx19 => chk (inB x1_19 (mLen 7)) (bnd (mA wx19 7 (x1_19).toNatClampNeg (wx19.1 45)) (fun w59 => bL2 (fX7_lays_L62 n n w59 x1_19 (0 : Int32)) (fun x1_62 wx62 => chk (inB x1_62 (mLen 9)) (bnd (mA wx62 9 (x1_62).toNatClampNeg (wx62.1 26)) (fun w102 => bL1 (fX7_lays_L105 n n w102 x1_62 (0 : Int32)) (fun wx105 => bnd (mS wx105 1 (0 : Int32)) (fun w189 => some w189)))))))))))))
set_option maxRecDepth 100000 in
set_option maxHeartbeats 4000000 in
theorem sX7_lays_L19 {X : JX} {a : Nat} {ad : Nat → Nat} {cI cZ cO cJ : ClassId} {n : Nat} {post : Option Value → va_W → Prop} (hX : jOK X cX7_lays 3 wsX7_lays RX7 rmX7_lays) (hT : jT X = jTy cI cZ cO cJ) (hGX : jG X jG0) (hret : jRV X cX7_lays rmX7_lays post) {o : (Int32 × MW)} (hex : ∀ (x1 : Int32) (w9 : MW), o = (x1, w9) → JW X 0 0 (mW a ad cI cZ w9) 50 [(0, .ref a), (1, .int x1)] [])  : ∀ (k : Nat) (w : MW) (v1 v2 : Int32), fX7_lays_L19 n k w v1 v2 = some o → JW X 0 0 (mW a ad cI cZ w) 19 [(0, .ref a), (1, .int v1), (2, .int v2)] [] := by
  intro k
  induction k with
  | zero => intro w v1 v2 h; cases h
  | succ k hrec0 =>
    intro w v1 v2 h
    have hrec := hrec0
    unfold fX7_lays_L19 at h
    refine jw_iload_n hX dX7_lays_19 rfl 2 rfl ?_
    refine jw_aload_n hX dX7_lays_20 rfl 0 rfl ?_
    refine jw_mgetI hX hT inX7_lays 1 (by decide) lkX7_lays_133 rfl dX7_lays_21 ?_
    refine jw_icmp_ge (tgt := 50) hX dX7_lays_24 (by decide) (fun hc => ?_) (fun hc => ?_)
    · rw [if_pos hc] at h
      refine jw_sub [0, 1] [(0, .ref a), (1, .int v1)] rfl ?_
      exact hex _ _ (Option.some.inj h).symm
    · rw [if_neg hc] at h
      refine jw_aload_n hX dX7_lays_27 rfl 0 rfl ?_
      refine jw_mgetA hX hT inX7_lays 6 (by decide) lkX7_lays_20 rfl dX7_lays_28 ?_
      refine jw_bipush (v := (60 : Int32)) hX dX7_lays_31 (by decide) ?_
      refine jw_iload_n hX dX7_lays_33 rfl 1 rfl ?_
      refine jw_imul hX dX7_lays_34 ?_
      refine jw_iload_n hX dX7_lays_35 rfl 2 rfl ?_
      refine jw_iadd hX dX7_lays_36 ?_
      refine jw_aload_n hX dX7_lays_37 rfl 0 rfl ?_
      refine jw_mgetA hX hT inX7_lays 2 (by decide) lkX7_lays_7 rfl dX7_lays_38 ?_
      refine jw_iload_n hX dX7_lays_41 rfl 2 rfl ?_
      obtain ⟨hb42, h⟩ := chk_some h
      refine jw_miald hX hT 0 2 rfl rfl hb42 dX7_lays_42 ?_
      obtain ⟨hb43, h⟩ := chk_some h
      refine jw_miast hX hT 3 6 rfl rfl hb43 dX7_lays_43 (fun w43 e43 => ?_)
      replace h := bnd_some h w43 e43
      clear e43
      refine jw_iinc (v := (v2 + (1 : Int32))) hX [(2, .int (v2 + (1 : Int32))), (0, .ref a), (1, .int v1)] dX7_lays_44 2 rfl (by first | rfl | (congr 1; decide)) (by decide) rfl ?_
      refine jw_goto (tgt := 19) hX dX7_lays_47 (by decide) ?_
      refine jw_sub [1, 2, 0] [(0, .ref a), (1, .int v1), (2, .int (v2 + (1 : Int32)))] rfl ?_
      exact hrec _ _ _ h
set_option maxRecDepth 100000 in
set_option maxHeartbeats 4000000 in
theorem sX7_lays_L62 {X : JX} {a : Nat} {ad : Nat → Nat} {cI cZ cO cJ : ClassId} {n : Nat} {post : Option Value → va_W → Prop} (hX : jOK X cX7_lays 3 wsX7_lays RX7 rmX7_lays) (hT : jT X = jTy cI cZ cO cJ) (hGX : jG X jG0) (hret : jRV X cX7_lays rmX7_lays post) {o : (Int32 × MW)} (hex : ∀ (x1 : Int32) (w9 : MW), o = (x1, w9) → JW X 0 0 (mW a ad cI cZ w9) 93 [(0, .ref a), (1, .int x1)] [])  : ∀ (k : Nat) (w : MW) (v1 v2 : Int32), fX7_lays_L62 n k w v1 v2 = some o → JW X 0 0 (mW a ad cI cZ w) 62 [(0, .ref a), (1, .int v1), (2, .int v2)] [] := by
  intro k
  induction k with
  | zero => intro w v1 v2 h; cases h
  | succ k hrec0 =>
    intro w v1 v2 h
    have hrec := hrec0
    unfold fX7_lays_L62 at h
    refine jw_iload_n hX dX7_lays_62 rfl 2 rfl ?_
    refine jw_aload_n hX dX7_lays_63 rfl 0 rfl ?_
    refine jw_mgetI hX hT inX7_lays 45 (by decide) lkX7_lays_176 rfl dX7_lays_64 ?_
    refine jw_icmp_ge (tgt := 93) hX dX7_lays_67 (by decide) (fun hc => ?_) (fun hc => ?_)
    · rw [if_pos hc] at h
      refine jw_sub [0, 1] [(0, .ref a), (1, .int v1)] rfl ?_
      exact hex _ _ (Option.some.inj h).symm
    · rw [if_neg hc] at h
      refine jw_aload_n hX dX7_lays_70 rfl 0 rfl ?_
      refine jw_mgetA hX hT inX7_lays 8 (by decide) lkX7_lays_26 rfl dX7_lays_71 ?_
      refine jw_bipush (v := (60 : Int32)) hX dX7_lays_74 (by decide) ?_
      refine jw_iload_n hX dX7_lays_76 rfl 1 rfl ?_
      refine jw_imul hX dX7_lays_77 ?_
      refine jw_iload_n hX dX7_lays_78 rfl 2 rfl ?_
      refine jw_iadd hX dX7_lays_79 ?_
      refine jw_aload_n hX dX7_lays_80 rfl 0 rfl ?_
      refine jw_mgetA hX hT inX7_lays 46 (by decide) lkX7_lays_119 rfl dX7_lays_81 ?_
      refine jw_iload_n hX dX7_lays_84 rfl 2 rfl ?_
      obtain ⟨hb85, h⟩ := chk_some h
      refine jw_miald hX hT 36 46 rfl rfl hb85 dX7_lays_85 ?_
      obtain ⟨hb86, h⟩ := chk_some h
      refine jw_miast hX hT 5 8 rfl rfl hb86 dX7_lays_86 (fun w86 e86 => ?_)
      replace h := bnd_some h w86 e86
      clear e86
      refine jw_iinc (v := (v2 + (1 : Int32))) hX [(2, .int (v2 + (1 : Int32))), (0, .ref a), (1, .int v1)] dX7_lays_87 2 rfl (by first | rfl | (congr 1; decide)) (by decide) rfl ?_
      refine jw_goto (tgt := 62) hX dX7_lays_90 (by decide) ?_
      refine jw_sub [1, 2, 0] [(0, .ref a), (1, .int v1), (2, .int (v2 + (1 : Int32)))] rfl ?_
      exact hrec _ _ _ h
set_option maxRecDepth 100000 in
set_option maxHeartbeats 4000000 in
theorem sX7_lays_L105 {X : JX} {a : Nat} {ad : Nat → Nat} {cI cZ cO cJ : ClassId} {n : Nat} {post : Option Value → va_W → Prop} (hX : jOK X cX7_lays 3 wsX7_lays RX7 rmX7_lays) (hT : jT X = jTy cI cZ cO cJ) (hGX : jG X jG0) (hret : jRV X cX7_lays rmX7_lays post) {o : (MW)} (hex : ∀ (w9 : MW), o = w9 → JW X 0 0 (mW a ad cI cZ w9) 187 [(0, .ref a)] [])  : ∀ (k : Nat) (w : MW) (v1 v2 : Int32), fX7_lays_L105 n k w v1 v2 = some o → JW X 0 0 (mW a ad cI cZ w) 105 [(0, .ref a), (1, .int v1), (2, .int v2)] [] := by
  intro k
  induction k with
  | zero => intro w v1 v2 h; cases h
  | succ k hrec0 =>
    intro w v1 v2 h
    have hrec := hrec0
    unfold fX7_lays_L105 at h
    refine jw_iload_n hX dX7_lays_105 rfl 2 rfl ?_
    refine jw_aload_n hX dX7_lays_106 rfl 0 rfl ?_
    refine jw_mgetI hX hT inX7_lays 26 (by decide) lkX7_lays_167 rfl dX7_lays_107 ?_
    refine jw_icmp_ge (tgt := 187) hX dX7_lays_110 (by decide) (fun hc => ?_) (fun hc => ?_)
    · rw [if_pos hc] at h
      refine jw_sub [0] [(0, .ref a)] rfl ?_
      exact hex _ (Option.some.inj h).symm
    · rw [if_neg hc] at h
      refine jw_aload_n hX dX7_lays_113 rfl 0 rfl ?_
      refine jw_mgetA hX hT inX7_lays 10 (by decide) lkX7_lays_32 rfl dX7_lays_114 ?_
      refine jw_bipush (v := (16 : Int32)) hX dX7_lays_117 (by decide) ?_
      refine jw_iload_n hX dX7_lays_119 rfl 1 rfl ?_
      refine jw_imul hX dX7_lays_120 ?_
      refine jw_iload_n hX dX7_lays_121 rfl 2 rfl ?_
      refine jw_iadd hX dX7_lays_122 ?_
      refine jw_aload_n hX dX7_lays_123 rfl 0 rfl ?_
      refine jw_mgetA hX hT inX7_lays 27 (by decide) lkX7_lays_74 rfl dX7_lays_124 ?_
      refine jw_iload_n hX dX7_lays_127 rfl 2 rfl ?_
      obtain ⟨hb128, h⟩ := chk_some h
      refine jw_miald hX hT 21 27 rfl rfl hb128 dX7_lays_128 ?_
      obtain ⟨hb129, h⟩ := chk_some h
      refine jw_miast hX hT 7 10 rfl rfl hb129 dX7_lays_129 (fun w129 e129 => ?_)
      replace h := bnd_some h w129 e129
      clear e129
      refine jw_aload_n hX dX7_lays_130 rfl 0 rfl ?_
      refine jw_mgetA hX hT inX7_lays 11 (by decide) lkX7_lays_35 rfl dX7_lays_131 ?_
      refine jw_bipush (v := (16 : Int32)) hX dX7_lays_134 (by decide) ?_
      refine jw_iload_n hX dX7_lays_136 rfl 1 rfl ?_
      refine jw_imul hX dX7_lays_137 ?_
      refine jw_iload_n hX dX7_lays_138 rfl 2 rfl ?_
      refine jw_iadd hX dX7_lays_139 ?_
      refine jw_aload_n hX dX7_lays_140 rfl 0 rfl ?_
      refine jw_mgetA hX hT inX7_lays 28 (by decide) lkX7_lays_77 rfl dX7_lays_141 ?_
      refine jw_iload_n hX dX7_lays_144 rfl 2 rfl ?_
      obtain ⟨hb145, h⟩ := chk_some h
      refine jw_mzald hX hT 22 28 rfl rfl hb145 dX7_lays_145 ?_
      obtain ⟨hb146, h⟩ := chk_some h
      obtain ⟨hz146, h⟩ := chk_some h
      refine jw_mzast hX hT 8 11 rfl rfl hb146 hz146 dX7_lays_146 (fun w146 e146 => ?_)
      replace h := bnd_some h w146 e146
      clear e146
      refine jw_aload_n hX dX7_lays_147 rfl 0 rfl ?_
      refine jw_mgetA hX hT inX7_lays 12 (by decide) lkX7_lays_38 rfl dX7_lays_148 ?_
      refine jw_bipush (v := (16 : Int32)) hX dX7_lays_151 (by decide) ?_
      refine jw_iload_n hX dX7_lays_153 rfl 1 rfl ?_
      refine jw_imul hX dX7_lays_154 ?_
      refine jw_iload_n hX dX7_lays_155 rfl 2 rfl ?_
      refine jw_iadd hX dX7_lays_156 ?_
      refine jw_aload_n hX dX7_lays_157 rfl 0 rfl ?_
      refine jw_mgetA hX hT inX7_lays 29 (by decide) lkX7_lays_80 rfl dX7_lays_158 ?_
      refine jw_iload_n hX dX7_lays_161 rfl 2 rfl ?_
      obtain ⟨hb162, h⟩ := chk_some h
      refine jw_miald hX hT 23 29 rfl rfl hb162 dX7_lays_162 ?_
      obtain ⟨hb163, h⟩ := chk_some h
      refine jw_miast hX hT 9 12 rfl rfl hb163 dX7_lays_163 (fun w163 e163 => ?_)
      replace h := bnd_some h w163 e163
      clear e163
      refine jw_aload_n hX dX7_lays_164 rfl 0 rfl ?_
      refine jw_mgetA hX hT inX7_lays 13 (by decide) lkX7_lays_41 rfl dX7_lays_165 ?_
      refine jw_bipush (v := (16 : Int32)) hX dX7_lays_168 (by decide) ?_
      refine jw_iload_n hX dX7_lays_170 rfl 1 rfl ?_
      refine jw_imul hX dX7_lays_171 ?_
      refine jw_iload_n hX dX7_lays_172 rfl 2 rfl ?_
      refine jw_iadd hX dX7_lays_173 ?_
      refine jw_aload_n hX dX7_lays_174 rfl 0 rfl ?_
      refine jw_mgetA hX hT inX7_lays 30 (by decide) lkX7_lays_83 rfl dX7_lays_175 ?_
      refine jw_iload_n hX dX7_lays_178 rfl 2 rfl ?_
      obtain ⟨hb179, h⟩ := chk_some h
      refine jw_miald hX hT 24 30 rfl rfl hb179 dX7_lays_179 ?_
      obtain ⟨hb180, h⟩ := chk_some h
      refine jw_miast hX hT 10 13 rfl rfl hb180 dX7_lays_180 (fun w180 e180 => ?_)
      replace h := bnd_some h w180 e180
      clear e180
      refine jw_iinc (v := (v2 + (1 : Int32))) hX [(2, .int (v2 + (1 : Int32))), (0, .ref a), (1, .int v1)] dX7_lays_181 2 rfl (by first | rfl | (congr 1; decide)) (by decide) rfl ?_
      refine jw_goto (tgt := 105) hX dX7_lays_184 (by decide) ?_
      refine jw_sub [1, 2, 0] [(0, .ref a), (1, .int v1), (2, .int (v2 + (1 : Int32)))] rfl ?_
      exact hrec _ _ _ h
set_option maxRecDepth 100000 in
set_option maxHeartbeats 4000000 in
theorem sX7_lays {X : JX} {a : Nat} {ad : Nat → Nat} {cI cZ cO cJ : ClassId} {n : Nat} {post : Option Value → va_W → Prop} (hX : jOK X cX7_lays 3 wsX7_lays RX7 rmX7_lays) (hT : jT X = jTy cI cZ cO cJ) (hGX : jG X jG0) (hret : jRV X cX7_lays rmX7_lays post) {o : MW} (hro : ∀ w9 : MW, o = w9 → post none (mW a ad cI cZ w9)) {w : MW} {v1 : Int32} (h : fX7_lays n w v1 = some o) : JW X 0 0 (mW a ad cI cZ w) 0 [(0, .ref a), (1, .int v1)] [] := by
  unfold fX7_lays at h
  refine jw_aload_n hX dX7_lays_0 rfl 0 rfl ?_
  refine jw_mgetA hX hT inX7_lays 4 (by decide) lkX7_lays_13 rfl dX7_lays_1 ?_
  refine jw_iload_n hX dX7_lays_4 rfl 1 rfl ?_
  refine jw_iconst (v := (0 : Int32)) hX dX7_lays_5 (by decide) ?_
  obtain ⟨hb6, h⟩ := chk_some h
  obtain ⟨hz6, h⟩ := chk_some h
  refine jw_mzast hX hT 1 4 rfl rfl hb6 hz6 dX7_lays_6 (fun w6 e6 => ?_)
  replace h := bnd_some h w6 e6
  clear e6
  refine jw_aload_n hX dX7_lays_7 rfl 0 rfl ?_
  refine jw_mgetA hX hT inX7_lays 5 (by decide) lkX7_lays_17 rfl dX7_lays_8 ?_
  refine jw_iload_n hX dX7_lays_11 rfl 1 rfl ?_
  refine jw_aload_n hX dX7_lays_12 rfl 0 rfl ?_
  refine jw_mgetI hX hT inX7_lays 1 (by decide) lkX7_lays_133 rfl dX7_lays_13 ?_
  obtain ⟨hb16, h⟩ := chk_some h
  refine jw_miast hX hT 2 5 rfl rfl hb16 dX7_lays_16 (fun w16 e16 => ?_)
  replace h := bnd_some h w16 e16
  clear e16
  refine jw_iconst (v := (0 : Int32)) hX dX7_lays_17 (by decide) ?_
  refine jw_istore_n hX [(2, .int (0 : Int32)), (0, .ref a), (1, .int v1)] dX7_lays_18 rfl (by decide) rfl ?_
  refine jw_sub [1, 2, 0] [(0, .ref a), (1, .int v1), (2, .int (0 : Int32))] rfl ?_
  obtain ⟨x1_19, wx19, hl19, h⟩ := bL2_some h
  refine sX7_lays_L19 hX hT hGX hret (o := (x1_19, wx19)) (fun q0 q1 e9 => ?_) n _ _ _ hl19
  cases e9
  refine jw_aload_n hX dX7_lays_50 rfl 0 rfl ?_
  refine jw_mgetA hX hT inX7_lays 7 (by decide) lkX7_lays_23 rfl dX7_lays_51 ?_
  refine jw_iload_n hX dX7_lays_54 rfl 1 rfl ?_
  refine jw_aload_n hX dX7_lays_55 rfl 0 rfl ?_
  refine jw_mgetI hX hT inX7_lays 45 (by decide) lkX7_lays_176 rfl dX7_lays_56 ?_
  obtain ⟨hb59, h⟩ := chk_some h
  refine jw_miast hX hT 4 7 rfl rfl hb59 dX7_lays_59 (fun w59 e59 => ?_)
  replace h := bnd_some h w59 e59
  clear e59
  refine jw_iconst (v := (0 : Int32)) hX dX7_lays_60 (by decide) ?_
  refine jw_istore_n hX [(2, .int (0 : Int32)), (0, .ref a), (1, .int x1_19)] dX7_lays_61 rfl (by decide) rfl ?_
  refine jw_sub [1, 2, 0] [(0, .ref a), (1, .int x1_19), (2, .int (0 : Int32))] rfl ?_
  obtain ⟨x1_62, wx62, hl62, h⟩ := bL2_some h
  refine sX7_lays_L62 hX hT hGX hret (o := (x1_62, wx62)) (fun q0 q1 e9 => ?_) n _ _ _ hl62
  cases e9
  refine jw_aload_n hX dX7_lays_93 rfl 0 rfl ?_
  refine jw_mgetA hX hT inX7_lays 9 (by decide) lkX7_lays_29 rfl dX7_lays_94 ?_
  refine jw_iload_n hX dX7_lays_97 rfl 1 rfl ?_
  refine jw_aload_n hX dX7_lays_98 rfl 0 rfl ?_
  refine jw_mgetI hX hT inX7_lays 26 (by decide) lkX7_lays_167 rfl dX7_lays_99 ?_
  obtain ⟨hb102, h⟩ := chk_some h
  refine jw_miast hX hT 6 9 rfl rfl hb102 dX7_lays_102 (fun w102 e102 => ?_)
  replace h := bnd_some h w102 e102
  clear e102
  refine jw_iconst (v := (0 : Int32)) hX dX7_lays_103 (by decide) ?_
  refine jw_istore_n hX [(2, .int (0 : Int32)), (0, .ref a), (1, .int x1_62)] dX7_lays_104 rfl (by decide) rfl ?_
  refine jw_sub [1, 2, 0] [(0, .ref a), (1, .int x1_62), (2, .int (0 : Int32))] rfl ?_
  obtain ⟨wx105, hl105, h⟩ := bL1_some h
  refine sX7_lays_L105 hX hT hGX hret (o := wx105) (fun q0 e9 => ?_) n _ _ _ hl105
  cases e9
  refine jw_aload_n hX dX7_lays_187 rfl 0 rfl ?_
  refine jw_iconst (v := (0 : Int32)) hX dX7_lays_188 (by decide) ?_
  refine jw_mputI hX hT inX7_lays 1 (by decide) lkX7_lays_133 rfl dX7_lays_189 (fun w189 e189 => ?_)
  replace h := bnd_some h w189 e189
  clear e189
  exact hret _ _ _ _ _ (Nat.zero_le _) (Nat.zero_le _) dX7_lays_192 (hro _ (Option.some.inj h).symm)
set_option maxRecDepth 100000 in
set_option maxHeartbeats 4000000 in
theorem kX7_lays {l : Launch} {D : va_G} {tys : List (ClassId × FieldType)} {a : Nat} {ad : Nat → Nat} {cI cZ cO cJ : ClassId} {n : Nat} {w : MW} {v1 : Int32} {w1 : MW} (hT : tys = jTy cI cZ cO cJ) (h : fX7_lays n w v1 = some w1) : CC l jG0 D tys yX7_lays wsX7_lays rmX7_lays [.ref a, .int v1] (mW a ad cI cZ w) (fun ov w2 => ov = none ∧ w2 = (mW a ad cI cZ w1)) := by
  refine CC_of (cc := cX7_lays) (maxL := 3) (ret := none) (by decide) rfl (Nat.le_of_ble_eq_true rfl) ?_
  intro X hD hL hT0 hGX hX rI rZ rV rA
  exact sX7_lays (post := fun ov w2 => ov = none ∧ w2 = (mW a ad cI cZ w1)) hX (hT0.trans hT) hGX (fun cells slots w9 pc lv => rV cells slots w9 pc lv rfl) (o := w1) (fun w9 e9 => by cases e9; exact ⟨rfl, rfl⟩) h
/-! X7_proves -/
abbrev rmX7_proves : Room := { frames := 0, cells := 0, slots := 0, locals := 0 }
theorem hdX7_proves : yX7_proves.cls = RX7 ∧ yX7_proves.cls ≠ "java/lang/invoke/MethodHandle" ∧ yX7_proves.cls ≠ "java/lang/invoke/VarHandle" ∧ (parseMethodDescriptor yX7_proves.desc).map (fun d => d.parameters.length) = some 0 := by decide +kernel
theorem inX7_proves : ∀ w ∈ wsX70, w ∈ wsX7_proves := fun _ h => List.mem_cons_of_mem _ (List.mem_append_right _ h)
theorem lkX7_proves_126 : Cond.fieldLink RX7 126 "PostlintModel" (TX7 3).2.1 (TX7 3).2.2.1 ∈ wsX7_proves := by decide +kernel
theorem lkX7_proves_23 : Cond.fieldLink RX7 23 "PostlintModel" (TX7 7).2.1 (TX7 7).2.2.1 ∈ wsX7_proves := by decide +kernel
theorem lkX7_proves_26 : Cond.fieldLink RX7 26 "PostlintModel" (TX7 8).2.1 (TX7 8).2.2.1 ∈ wsX7_proves := by decide +kernel
theorem lkX7_proves_44 : Cond.fieldLink RX7 44 "PostlintModel" (TX7 14).2.1 (TX7 14).2.2.1 ∈ wsX7_proves := by decide +kernel
def fX7_proves_L32 (n : Nat) : Nat → MW → Int32 → Int32 → Int32 → Option (Int32 × Int32)
  | 0, _, _, _, _ => none
  | k + 1, w, v1, v2, v3 => chk (inB v1 (mLen 7)) ((if (w.2 7 (v1).toNatClampNeg) ≤ v3 then some (v1, v2) else chk (inB (((60 : Int32) * v1) + v3) (mLen 8)) (bnd ((((31 : Int32) * v2) + (w.2 8 ((((60 : Int32) * v1) + v3)).toNatClampNeg))) (fun y58 => fX7_proves_L32 n k w v1 y58 ((v3 + (1 : Int32)))))))
def fX7_proves_J26 (n : Nat) (rec : MW → Int32 → Option (MW)) (w : MW) (v1 t0 : Int32) : Option (MW) := bnd ((t0 + (17 : Int32))) (fun y29 => bL2 (fX7_proves_L32 n n w v1 y29 (0 : Int32)) (fun x1_32 x2_32 => chk (inB x1_32 (mLen 14)) (bnd (mA w 14 (x1_32).toNatClampNeg x2_32) (fun w71 => rec w71 ((x1_32 + (1 : Int32)))))))
def fX7_proves_L2 (n : Nat) : Nat → MW → Int32 → Option (MW)
  | 0, _, _ => none
  | k + 1, w, v1 => (if (w.1 3) ≤ v1 then some (w) else (if v1 = 0 then fX7_proves_J26 n (fX7_proves_L2 n k) w v1 (0 : Int32) else chk (inB (v1 - (1 : Int32)) (mLen 14)) (fX7_proves_J26 n (fX7_proves_L2 n k) w v1 (w.2 14 ((v1 - (1 : Int32))).toNatClampNeg))))
def fX7_proves (n : Nat) (w : MW) : Option MW := bL1 (fX7_proves_L2 n n w (0 : Int32)) (fun wx2 => some wx2)
set_option maxRecDepth 100000 in
set_option maxHeartbeats 4000000 in
theorem sX7_proves_L32 {X : JX} {a : Nat} {ad : Nat → Nat} {cI cZ cO cJ : ClassId} {n : Nat} {post : Option Value → va_W → Prop} (hX : jOK X cX7_proves 4 wsX7_proves RX7 rmX7_proves) (hT : jT X = jTy cI cZ cO cJ) (hGX : jG X jG0) (hret : jRV X cX7_proves rmX7_proves post) {w : MW} {o : (Int32 × Int32)} (hex : ∀ (x1 x2 : Int32), o = (x1, x2) → JW X 0 0 (mW a ad cI cZ w) 65 [(0, .ref a), (1, .int x1), (2, .int x2)] [])  : ∀ (k : Nat) (v1 v2 v3 : Int32), fX7_proves_L32 n k w v1 v2 v3 = some o → JW X 0 0 (mW a ad cI cZ w) 32 [(0, .ref a), (1, .int v1), (2, .int v2), (3, .int v3)] [] := by
  intro k
  induction k with
  | zero => intro v1 v2 v3 h; cases h
  | succ k hrec0 =>
    intro v1 v2 v3 h
    have hrec := fun (_ : MW) => hrec0
    unfold fX7_proves_L32 at h
    refine jw_iload_n hX dX7_proves_32 rfl 3 rfl ?_
    refine jw_aload_n hX dX7_proves_33 rfl 0 rfl ?_
    refine jw_mgetA hX hT inX7_proves 7 (by decide) lkX7_proves_23 rfl dX7_proves_34 ?_
    refine jw_iload_n hX dX7_proves_37 rfl 1 rfl ?_
    obtain ⟨hb38, h⟩ := chk_some h
    refine jw_miald hX hT 4 7 rfl rfl hb38 dX7_proves_38 ?_
    refine jw_icmp_ge (tgt := 65) hX dX7_proves_39 (by decide) (fun hc => ?_) (fun hc => ?_)
    · rw [if_pos hc] at h
      refine jw_sub [0, 1, 2] [(0, .ref a), (1, .int v1), (2, .int v2)] rfl ?_
      exact hex _ _ (Option.some.inj h).symm
    · rw [if_neg hc] at h
      refine jw_bipush (v := (31 : Int32)) hX dX7_proves_42 (by decide) ?_
      refine jw_iload_n hX dX7_proves_44 rfl 2 rfl ?_
      refine jw_imul hX dX7_proves_45 ?_
      refine jw_aload_n hX dX7_proves_46 rfl 0 rfl ?_
      refine jw_mgetA hX hT inX7_proves 8 (by decide) lkX7_proves_26 rfl dX7_proves_47 ?_
      refine jw_bipush (v := (60 : Int32)) hX dX7_proves_50 (by decide) ?_
      refine jw_iload_n hX dX7_proves_52 rfl 1 rfl ?_
      refine jw_imul hX dX7_proves_53 ?_
      refine jw_iload_n hX dX7_proves_54 rfl 3 rfl ?_
      refine jw_iadd hX dX7_proves_55 ?_
      obtain ⟨hb56, h⟩ := chk_some h
      refine jw_miald hX hT 5 8 rfl rfl hb56 dX7_proves_56 ?_
      refine jw_iadd hX dX7_proves_57 ?_
      refine jw_topi (fun y58 e58 => ?_)
      replace h := bnd_some h y58 e58
      clear e58
      refine jw_istore_n hX [(2, .int y58), (0, .ref a), (1, .int v1), (3, .int v3)] dX7_proves_58 rfl (by decide) rfl ?_
      refine jw_iinc (v := (v3 + (1 : Int32))) hX [(3, .int (v3 + (1 : Int32))), (2, .int y58), (0, .ref a), (1, .int v1)] dX7_proves_59 3 rfl (by first | rfl | (congr 1; decide)) (by decide) rfl ?_
      refine jw_goto (tgt := 32) hX dX7_proves_62 (by decide) ?_
      refine jw_sub [2, 3, 1, 0] [(0, .ref a), (1, .int v1), (2, .int y58), (3, .int (v3 + (1 : Int32)))] rfl ?_
      exact hrec w _ _ _ h
set_option maxRecDepth 100000 in
set_option maxHeartbeats 4000000 in
theorem sX7_proves_J26 {X : JX} {a : Nat} {ad : Nat → Nat} {cI cZ cO cJ : ClassId} {n : Nat} {post : Option Value → va_W → Prop} (hX : jOK X cX7_proves 4 wsX7_proves RX7 rmX7_proves) (hT : jT X = jTy cI cZ cO cJ) (hGX : jG X jG0) (hret : jRV X cX7_proves rmX7_proves post) {o : (MW)} {rec : MW → Int32 → Option (MW)} (hrec : ∀ (w : MW) (v1 : Int32), rec w v1 = some o → JW X 0 0 (mW a ad cI cZ w) 2 [(0, .ref a), (1, .int v1)] [])  (hex : ∀ (w9 : MW), o = w9 → JW X 0 0 (mW a ad cI cZ w9) 78 [] [])  {w : MW} {v1 t0 : Int32} (h : fX7_proves_J26 n rec w v1 t0 = some o) : JW X 0 0 (mW a ad cI cZ w) 26 [(0, .ref a), (1, .int v1)] [.int t0] := by
  unfold fX7_proves_J26 at h
  refine jw_bipush (v := (17 : Int32)) hX dX7_proves_26 (by decide) ?_
  refine jw_iadd hX dX7_proves_28 ?_
  refine jw_topi (fun y29 e29 => ?_)
  replace h := bnd_some h y29 e29
  clear e29
  refine jw_istore_n hX [(2, .int y29), (0, .ref a), (1, .int v1)] dX7_proves_29 rfl (by decide) rfl ?_
  refine jw_iconst (v := (0 : Int32)) hX dX7_proves_30 (by decide) ?_
  refine jw_istore_n hX [(3, .int (0 : Int32)), (2, .int y29), (0, .ref a), (1, .int v1)] dX7_proves_31 rfl (by decide) rfl ?_
  refine jw_sub [2, 3, 1, 0] [(0, .ref a), (1, .int v1), (2, .int y29), (3, .int (0 : Int32))] rfl ?_
  obtain ⟨x1_32, x2_32, hl32, h⟩ := bL2_some h
  refine sX7_proves_L32 hX hT hGX hret (o := (x1_32, x2_32)) (fun q0 q1 e9 => ?_) n _ _ _ hl32
  cases e9
  refine jw_aload_n hX dX7_proves_65 rfl 0 rfl ?_
  refine jw_mgetA hX hT inX7_proves 14 (by decide) lkX7_proves_44 rfl dX7_proves_66 ?_
  refine jw_iload_n hX dX7_proves_69 rfl 1 rfl ?_
  refine jw_iload_n hX dX7_proves_70 rfl 2 rfl ?_
  obtain ⟨hb71, h⟩ := chk_some h
  refine jw_miast hX hT 11 14 rfl rfl hb71 dX7_proves_71 (fun w71 e71 => ?_)
  replace h := bnd_some h w71 e71
  clear e71
  refine jw_iinc (v := (x1_32 + (1 : Int32))) hX [(1, .int (x1_32 + (1 : Int32))), (0, .ref a), (2, .int x2_32)] dX7_proves_72 1 rfl (by first | rfl | (congr 1; decide)) (by decide) rfl ?_
  refine jw_goto (tgt := 2) hX dX7_proves_75 (by decide) ?_
  refine jw_sub [1, 0] [(0, .ref a), (1, .int (x1_32 + (1 : Int32)))] rfl ?_
  exact hrec _ _ h
set_option maxRecDepth 100000 in
set_option maxHeartbeats 4000000 in
theorem sX7_proves_L2 {X : JX} {a : Nat} {ad : Nat → Nat} {cI cZ cO cJ : ClassId} {n : Nat} {post : Option Value → va_W → Prop} (hX : jOK X cX7_proves 4 wsX7_proves RX7 rmX7_proves) (hT : jT X = jTy cI cZ cO cJ) (hGX : jG X jG0) (hret : jRV X cX7_proves rmX7_proves post) {o : (MW)} (hex : ∀ (w9 : MW), o = w9 → JW X 0 0 (mW a ad cI cZ w9) 78 [] [])  : ∀ (k : Nat) (w : MW) (v1 : Int32), fX7_proves_L2 n k w v1 = some o → JW X 0 0 (mW a ad cI cZ w) 2 [(0, .ref a), (1, .int v1)] [] := by
  intro k
  induction k with
  | zero => intro w v1 h; cases h
  | succ k hrec0 =>
    intro w v1 h
    have hrec := hrec0
    unfold fX7_proves_L2 at h
    refine jw_iload_n hX dX7_proves_2 rfl 1 rfl ?_
    refine jw_aload_n hX dX7_proves_3 rfl 0 rfl ?_
    refine jw_mgetI hX hT inX7_proves 3 (by decide) lkX7_proves_126 rfl dX7_proves_4 ?_
    refine jw_icmp_ge (tgt := 78) hX dX7_proves_7 (by decide) (fun hc => ?_) (fun hc => ?_)
    · rw [if_pos hc] at h
      refine jw_sub [] [] rfl ?_
      exact hex _ (Option.some.inj h).symm
    · rw [if_neg hc] at h
      refine jw_iload_n hX dX7_proves_10 rfl 1 rfl ?_
      refine jw_if_ne (tgt := 18) hX dX7_proves_11 (by decide) (fun hc => ?_) (fun hc => ?_)
      · rw [if_neg hc] at h
        refine jw_aload_n hX dX7_proves_18 rfl 0 rfl ?_
        refine jw_mgetA hX hT inX7_proves 14 (by decide) lkX7_proves_44 rfl dX7_proves_19 ?_
        refine jw_iload_n hX dX7_proves_22 rfl 1 rfl ?_
        refine jw_iconst (v := (1 : Int32)) hX dX7_proves_23 (by decide) ?_
        refine jw_isub hX dX7_proves_24 ?_
        obtain ⟨hb25, h⟩ := chk_some h
        refine jw_miald hX hT 11 14 rfl rfl hb25 dX7_proves_25 ?_
        exact sX7_proves_J26 hX hT hGX hret hrec hex h
      · rw [if_pos hc] at h
        refine jw_iconst (v := (0 : Int32)) hX dX7_proves_14 (by decide) ?_
        refine jw_goto (tgt := 26) hX dX7_proves_15 (by decide) ?_
        exact sX7_proves_J26 hX hT hGX hret hrec hex h
set_option maxRecDepth 100000 in
set_option maxHeartbeats 4000000 in
theorem sX7_proves {X : JX} {a : Nat} {ad : Nat → Nat} {cI cZ cO cJ : ClassId} {n : Nat} {post : Option Value → va_W → Prop} (hX : jOK X cX7_proves 4 wsX7_proves RX7 rmX7_proves) (hT : jT X = jTy cI cZ cO cJ) (hGX : jG X jG0) (hret : jRV X cX7_proves rmX7_proves post) {o : MW} (hro : ∀ w9 : MW, o = w9 → post none (mW a ad cI cZ w9)) {w : MW} (h : fX7_proves n w  = some o) : JW X 0 0 (mW a ad cI cZ w) 0 [(0, .ref a)] [] := by
  unfold fX7_proves at h
  refine jw_iconst (v := (0 : Int32)) hX dX7_proves_0 (by decide) ?_
  refine jw_istore_n hX [(1, .int (0 : Int32)), (0, .ref a)] dX7_proves_1 rfl (by decide) rfl ?_
  refine jw_sub [1, 0] [(0, .ref a), (1, .int (0 : Int32))] rfl ?_
  obtain ⟨wx2, hl2, h⟩ := bL1_some h
  refine sX7_proves_L2 hX hT hGX hret (o := wx2) (fun q0 e9 => ?_) n _ _ hl2
  cases e9
  exact hret _ _ _ _ _ (Nat.zero_le _) (Nat.zero_le _) dX7_proves_78 (hro _ (Option.some.inj h).symm)
set_option maxRecDepth 100000 in
set_option maxHeartbeats 4000000 in
theorem kX7_proves {l : Launch} {D : va_G} {tys : List (ClassId × FieldType)} {a : Nat} {ad : Nat → Nat} {cI cZ cO cJ : ClassId} {n : Nat} {w : MW}  {w1 : MW} (hT : tys = jTy cI cZ cO cJ) (h : fX7_proves n w  = some w1) : CC l jG0 D tys yX7_proves wsX7_proves rmX7_proves [.ref a] (mW a ad cI cZ w) (fun ov w2 => ov = none ∧ w2 = (mW a ad cI cZ w1)) := by
  refine CC_of (cc := cX7_proves) (maxL := 4) (ret := none) (by decide) rfl (Nat.le_of_ble_eq_true rfl) ?_
  intro X hD hL hT0 hGX hX rI rZ rV rA
  exact sX7_proves (post := fun ov w2 => ov = none ∧ w2 = (mW a ad cI cZ w1)) hX (hT0.trans hT) hGX (fun cells slots w9 pc lv => rV cells slots w9 pc lv rfl) (o := w1) (fun w9 e9 => by cases e9; exact ⟨rfl, rfl⟩) h
/-! X7_type -/
abbrev rmX7_type : Room := { frames := 1, cells := 0, slots := 0, locals := 22 }
theorem hdX7_type : yX7_type.cls = RX7 ∧ yX7_type.cls ≠ "java/lang/invoke/MethodHandle" ∧ yX7_type.cls ≠ "java/lang/invoke/VarHandle" ∧ (parseMethodDescriptor yX7_type.desc).map (fun d => d.parameters.length) = some 1 := by decide +kernel
theorem inX7_type : ∀ w ∈ wsX70, w ∈ wsX7_type := fun _ h => List.mem_cons_of_mem _ (List.mem_append_right _ h)
theorem lkX7_type_133 : Cond.fieldLink RX7 133 "PostlintModel" (TX7 1).2.1 (TX7 1).2.2.1 ∈ wsX7_type := by decide +kernel
theorem lkX7_type_7 : Cond.fieldLink RX7 7 "PostlintModel" (TX7 2).2.1 (TX7 2).2.2.1 ∈ wsX7_type := by decide +kernel
def fX7_type_J30 (w : MW) (v1 t0 : Int32) : Option (Int32 × MW) := b2 (fX7_isOf w t0) (fun r30 w30 => (if r30 = 0 then some ((0 : Int32), w30) else chk (inB (w30.1 1) (mLen 2)) (bnd (mA w30 2 ((w30.1 1)).toNatClampNeg v1) (fun w47 => bnd (mS w47 1 ((w47.1 1) + (1 : Int32))) (fun w55 => some ((w55.1 1), w55))))))
def fX7_type (w : MW) (v1 : Int32) : Option (Int32 × MW) := bP (fX7_isIn v1 (32 : Int32) (126 : Int32)) (fun r6 => (if r6 = 0 then fX7_type_J30 w v1 (1 : Int32) else (if (w.1 1) = (60 : Int32) then fX7_type_J30 w v1 (2 : Int32) else fX7_type_J30 w v1 (0 : Int32))))
set_option maxRecDepth 100000 in
set_option maxHeartbeats 4000000 in
theorem sX7_type_J30 {X : JX} {a : Nat} {ad : Nat → Nat} {cI cZ cO cJ : ClassId} {post : Option Value → va_W → Prop} (hX : jOK X cX7_type 2 wsX7_type RX7 rmX7_type) (hT : jT X = jTy cI cZ cO cJ) (hGX : jG X jG0) (hret : jRI X cX7_type rmX7_type post) {o : (Int32 × MW)}   (hro : ∀ (v9 : Int32) (w9 : MW), o = (v9, w9) → post (some (.int v9)) (mW a ad cI cZ w9)) {w : MW} {v1 t0 : Int32} (h : fX7_type_J30 w v1 t0 = some o) : JW X 0 0 (mW a ad cI cZ w) 30 [(0, .ref a), (1, .int v1)] [.int t0, .ref a] := by
  unfold fX7_type_J30 at h
  obtain ⟨r30, w30, hc30, h⟩ := b2_some h
  refine jw_cVi (As := [.int t0]) hX jG0_ok hGX 1 (kX7_isOf hT hc30) gX7_type_X7_isOf rfl hdX7_isOf ⟨by decide, by decide⟩ 0 7 rfl rfl rfl (Nat.le_of_ble_eq_true rfl) dX7_type_30 rfl rfl ⟨by decide, by decide⟩ ?_
  refine jw_if_ne (tgt := 38) hX dX7_type_33 (by decide) (fun hc => ?_) (fun hc => ?_)
  · rw [if_neg hc] at h
    refine jw_aload_n hX dX7_type_38 rfl 0 rfl ?_
    refine jw_mgetA hX hT inX7_type 2 (by decide) lkX7_type_7 rfl dX7_type_39 ?_
    refine jw_aload_n hX dX7_type_42 rfl 0 rfl ?_
    refine jw_mgetI hX hT inX7_type 1 (by decide) lkX7_type_133 rfl dX7_type_43 ?_
    refine jw_iload_n hX dX7_type_46 rfl 1 rfl ?_
    obtain ⟨hb47, h⟩ := chk_some h
    refine jw_miast hX hT 0 2 rfl rfl hb47 dX7_type_47 (fun w47 e47 => ?_)
    replace h := bnd_some h w47 e47
    clear e47
    refine jw_aload_n hX dX7_type_48 rfl 0 rfl ?_
    refine jw_dup hX dX7_type_49 rfl ?_
    refine jw_mgetI hX hT inX7_type 1 (by decide) lkX7_type_133 rfl dX7_type_50 ?_
    refine jw_iconst (v := (1 : Int32)) hX dX7_type_53 (by decide) ?_
    refine jw_iadd hX dX7_type_54 ?_
    refine jw_mputI hX hT inX7_type 1 (by decide) lkX7_type_133 rfl dX7_type_55 (fun w55 e55 => ?_)
    replace h := bnd_some h w55 e55
    clear e55
    refine jw_aload_n hX dX7_type_58 rfl 0 rfl ?_
    refine jw_mgetI hX hT inX7_type 1 (by decide) lkX7_type_133 rfl dX7_type_59 ?_
    exact hret _ _ _ _ _ _ (Nat.zero_le _) (Nat.zero_le _) dX7_type_62 (hro _ _ (Option.some.inj h).symm)
  · rw [if_pos hc] at h
    refine jw_iconst (v := (0 : Int32)) hX dX7_type_36 (by decide) ?_
    exact hret _ _ _ _ _ _ (Nat.zero_le _) (Nat.zero_le _) dX7_type_37 (hro _ _ (Option.some.inj h).symm)
set_option maxRecDepth 100000 in
set_option maxHeartbeats 4000000 in
theorem sX7_type {X : JX} {a : Nat} {ad : Nat → Nat} {cI cZ cO cJ : ClassId} {post : Option Value → va_W → Prop} (hX : jOK X cX7_type 2 wsX7_type RX7 rmX7_type) (hT : jT X = jTy cI cZ cO cJ) (hGX : jG X jG0) (hret : jRI X cX7_type rmX7_type post) {o : (Int32 × MW)} (hro : ∀ (v9 : Int32) (w9 : MW), o = (v9, w9) → post (some (.int v9)) (mW a ad cI cZ w9)) {w : MW} {v1 : Int32} (h : fX7_type w v1 = some o) : JW X 0 0 (mW a ad cI cZ w) 0 [(0, .ref a), (1, .int v1)] [] := by
  unfold fX7_type at h
  refine jw_aload_n hX dX7_type_0 rfl 0 rfl ?_
  refine jw_iload_n hX dX7_type_1 rfl 1 rfl ?_
  refine jw_bipush (v := (32 : Int32)) hX dX7_type_2 (by decide) ?_
  refine jw_bipush (v := (126 : Int32)) hX dX7_type_4 (by decide) ?_
  obtain ⟨r6, hc6, h⟩ := bP_some h
  refine jw_cSi (As := [.int v1, .int (32 : Int32), .int (126 : Int32)]) hX jG0_ok hGX 3 (kX7_isIn hT hc6) gX7_type_X7_isIn rfl hdX7_isIn ⟨by decide, by decide⟩ rfl (Nat.le_of_ble_eq_true rfl) dX7_type_6 rfl rfl ⟨by decide, by decide⟩ ?_
  refine jw_if_ne (tgt := 16) hX dX7_type_9 (by decide) (fun hc => ?_) (fun hc => ?_)
  · rw [if_neg hc] at h
    refine jw_aload_n hX dX7_type_16 rfl 0 rfl ?_
    refine jw_mgetI hX hT inX7_type 1 (by decide) lkX7_type_133 rfl dX7_type_17 ?_
    refine jw_bipush (v := (60 : Int32)) hX dX7_type_20 (by decide) ?_
    refine jw_icmp_ne (tgt := 29) hX dX7_type_22 (by decide) (fun hc => ?_) (fun hc => ?_)
    · rw [if_neg hc] at h
      refine jw_iconst (v := (0 : Int32)) hX dX7_type_29 (by decide) ?_
      exact sX7_type_J30 hX hT hGX hret hro h
    · rw [if_pos hc] at h
      refine jw_iconst (v := (2 : Int32)) hX dX7_type_25 (by decide) ?_
      refine jw_goto (tgt := 30) hX dX7_type_26 (by decide) ?_
      exact sX7_type_J30 hX hT hGX hret hro h
  · rw [if_pos hc] at h
    refine jw_iconst (v := (1 : Int32)) hX dX7_type_12 (by decide) ?_
    refine jw_goto (tgt := 30) hX dX7_type_13 (by decide) ?_
    exact sX7_type_J30 hX hT hGX hret hro h
set_option maxRecDepth 100000 in
set_option maxHeartbeats 4000000 in
theorem kX7_type {l : Launch} {D : va_G} {tys : List (ClassId × FieldType)} {a : Nat} {ad : Nat → Nat} {cI cZ cO cJ : ClassId} {w : MW} {v1 : Int32} {r : Int32} {w1 : MW} (hT : tys = jTy cI cZ cO cJ) (h : fX7_type w v1 = some (r, w1)) : CC l jG0 D tys yX7_type wsX7_type rmX7_type [.ref a, .int v1] (mW a ad cI cZ w) (fun ov w2 => ov = some (.int r) ∧ w2 = (mW a ad cI cZ w1)) := by
  refine CC_of (cc := cX7_type) (maxL := 2) (ret := (some .int)) (by decide) rfl (Nat.le_of_ble_eq_true rfl) ?_
  intro X hD hL hT0 hGX hX rI rZ rV rA
  exact sX7_type (post := fun ov w2 => ov = some (.int r) ∧ w2 = (mW a ad cI cZ w1)) hX (hT0.trans hT) hGX (fun cells slots w9 pc lv v => rI cells slots w9 pc lv v rfl) (o := (r, w1)) (fun v9 w9 e9 => by cases e9; exact ⟨rfl, rfl⟩) h
/-! X7_clear -/
abbrev rmX7_clear : Room := { frames := 0, cells := 0, slots := 0, locals := 0 }
theorem hdX7_clear : yX7_clear.cls = RX7 ∧ yX7_clear.cls ≠ "java/lang/invoke/MethodHandle" ∧ yX7_clear.cls ≠ "java/lang/invoke/VarHandle" ∧ (parseMethodDescriptor yX7_clear.desc).map (fun d => d.parameters.length) = some 0 := by decide +kernel
theorem inX7_clear : ∀ w ∈ wsX70, w ∈ wsX7_clear := fun _ h => List.mem_cons_of_mem _ (List.mem_append_right _ h)
theorem lkX7_clear_122 : Cond.fieldLink RX7 122 "PostlintModel" (TX7 0).2.1 (TX7 0).2.2.1 ∈ wsX7_clear := by decide +kernel
theorem lkX7_clear_133 : Cond.fieldLink RX7 133 "PostlintModel" (TX7 1).2.1 (TX7 1).2.2.1 ∈ wsX7_clear := by decide +kernel
def fX7_clear (w : MW) : Option (Int32 × MW) := bnd (mS w 0 (0 : Int32)) (fun w2 => bnd ((w2.1 1)) (fun y9 => bnd (mS w2 1 (0 : Int32)) (fun w12 => some (y9, w12))))
set_option maxRecDepth 100000 in
set_option maxHeartbeats 4000000 in
theorem sX7_clear {X : JX} {a : Nat} {ad : Nat → Nat} {cI cZ cO cJ : ClassId} {post : Option Value → va_W → Prop} (hX : jOK X cX7_clear 2 wsX7_clear RX7 rmX7_clear) (hT : jT X = jTy cI cZ cO cJ) (hGX : jG X jG0) (hret : jRI X cX7_clear rmX7_clear post) {o : (Int32 × MW)} (hro : ∀ (v9 : Int32) (w9 : MW), o = (v9, w9) → post (some (.int v9)) (mW a ad cI cZ w9)) {w : MW} (h : fX7_clear w  = some o) : JW X 0 0 (mW a ad cI cZ w) 0 [(0, .ref a)] [] := by
  unfold fX7_clear at h
  refine jw_aload_n hX dX7_clear_0 rfl 0 rfl ?_
  refine jw_iconst (v := (0 : Int32)) hX dX7_clear_1 (by decide) ?_
  refine jw_mputI hX hT inX7_clear 0 (by decide) lkX7_clear_122 rfl dX7_clear_2 (fun w2 e2 => ?_)
  replace h := bnd_some h w2 e2
  clear e2
  refine jw_aload_n hX dX7_clear_5 rfl 0 rfl ?_
  refine jw_mgetI hX hT inX7_clear 1 (by decide) lkX7_clear_133 rfl dX7_clear_6 ?_
  refine jw_topi (fun y9 e9 => ?_)
  replace h := bnd_some h y9 e9
  clear e9
  refine jw_istore_n hX [(1, .int y9), (0, .ref a)] dX7_clear_9 rfl (by decide) rfl ?_
  refine jw_aload_n hX dX7_clear_10 rfl 1 rfl ?_
  refine jw_iconst (v := (0 : Int32)) hX dX7_clear_11 (by decide) ?_
  refine jw_mputI hX hT inX7_clear 1 (by decide) lkX7_clear_133 rfl dX7_clear_12 (fun w12 e12 => ?_)
  replace h := bnd_some h w12 e12
  clear e12
  refine jw_iload_n hX dX7_clear_15 rfl 0 rfl ?_
  exact hret _ _ _ _ _ _ (Nat.zero_le _) (Nat.zero_le _) dX7_clear_16 (hro _ _ (Option.some.inj h).symm)
set_option maxRecDepth 100000 in
set_option maxHeartbeats 4000000 in
theorem kX7_clear {l : Launch} {D : va_G} {tys : List (ClassId × FieldType)} {a : Nat} {ad : Nat → Nat} {cI cZ cO cJ : ClassId} {w : MW}  {r : Int32} {w1 : MW} (hT : tys = jTy cI cZ cO cJ) (h : fX7_clear w  = some (r, w1)) : CC l jG0 D tys yX7_clear wsX7_clear rmX7_clear [.ref a] (mW a ad cI cZ w) (fun ov w2 => ov = some (.int r) ∧ w2 = (mW a ad cI cZ w1)) := by
  refine CC_of (cc := cX7_clear) (maxL := 2) (ret := (some .int)) (by decide) rfl (Nat.le_of_ble_eq_true rfl) ?_
  intro X hD hL hT0 hGX hX rI rZ rV rA
  exact sX7_clear (post := fun ov w2 => ov = some (.int r) ∧ w2 = (mW a ad cI cZ w1)) hX (hT0.trans hT) hGX (fun cells slots w9 pc lv v => rI cells slots w9 pc lv v rfl) (o := (r, w1)) (fun v9 w9 e9 => by cases e9; exact ⟨rfl, rfl⟩) h
/-! X7_fault -/
abbrev rmX7_fault : Room := { frames := 3, cells := 0, slots := 0, locals := 73 }
theorem hdX7_fault : yX7_fault.cls = RX7 ∧ yX7_fault.cls ≠ "java/lang/invoke/MethodHandle" ∧ yX7_fault.cls ≠ "java/lang/invoke/VarHandle" ∧ (parseMethodDescriptor yX7_fault.desc).map (fun d => d.parameters.length) = some 0 := by decide +kernel
theorem inX7_fault : ∀ w ∈ wsX70, w ∈ wsX7_fault := fun _ h => List.mem_cons_of_mem _ (List.mem_append_right _ h)
theorem lkX7_fault_122 : Cond.fieldLink RX7 122 "PostlintModel" (TX7 0).2.1 (TX7 0).2.2.1 ∈ wsX7_fault := by decide +kernel
def fX7_fault (n : Nat) (w : MW) : Option (Int32 × MW) := bnd (mS w 0 (0 : Int32)) (fun w2 => bP (fX7_draftFault n w2 ) (fun r6 => some (r6, w2)))
set_option maxRecDepth 100000 in
set_option maxHeartbeats 4000000 in
theorem sX7_fault {X : JX} {a : Nat} {ad : Nat → Nat} {cI cZ cO cJ : ClassId} {n : Nat} {post : Option Value → va_W → Prop} (hX : jOK X cX7_fault 1 wsX7_fault RX7 rmX7_fault) (hT : jT X = jTy cI cZ cO cJ) (hGX : jG X jG0) (hret : jRI X cX7_fault rmX7_fault post) {o : (Int32 × MW)} (hro : ∀ (v9 : Int32) (w9 : MW), o = (v9, w9) → post (some (.int v9)) (mW a ad cI cZ w9)) {w : MW} (h : fX7_fault n w  = some o) : JW X 0 0 (mW a ad cI cZ w) 0 [(0, .ref a)] [] := by
  unfold fX7_fault at h
  refine jw_aload_n hX dX7_fault_0 rfl 0 rfl ?_
  refine jw_iconst (v := (0 : Int32)) hX dX7_fault_1 (by decide) ?_
  refine jw_mputI hX hT inX7_fault 0 (by decide) lkX7_fault_122 rfl dX7_fault_2 (fun w2 e2 => ?_)
  replace h := bnd_some h w2 e2
  clear e2
  refine jw_aload_n hX dX7_fault_5 rfl 0 rfl ?_
  obtain ⟨r6, hc6, h⟩ := bP_some h
  refine jw_cVi (As := []) hX jG0_ok hGX 0 (kX7_draftFault hT hc6) gX7_fault_X7_draftFault rfl hdX7_draftFault ⟨by decide, by decide⟩ 0 7 rfl rfl rfl (Nat.le_of_ble_eq_true rfl) dX7_fault_6 rfl rfl ⟨by decide, by decide⟩ ?_
  exact hret _ _ _ _ _ _ (Nat.zero_le _) (Nat.zero_le _) dX7_fault_9 (hro _ _ (Option.some.inj h).symm)
set_option maxRecDepth 100000 in
set_option maxHeartbeats 4000000 in
theorem kX7_fault {l : Launch} {D : va_G} {tys : List (ClassId × FieldType)} {a : Nat} {ad : Nat → Nat} {cI cZ cO cJ : ClassId} {n : Nat} {w : MW}  {r : Int32} {w1 : MW} (hT : tys = jTy cI cZ cO cJ) (h : fX7_fault n w  = some (r, w1)) : CC l jG0 D tys yX7_fault wsX7_fault rmX7_fault [.ref a] (mW a ad cI cZ w) (fun ov w2 => ov = some (.int r) ∧ w2 = (mW a ad cI cZ w1)) := by
  refine CC_of (cc := cX7_fault) (maxL := 1) (ret := (some .int)) (by decide) rfl (Nat.le_of_ble_eq_true rfl) ?_
  intro X hD hL hT0 hGX hX rI rZ rV rA
  exact sX7_fault (post := fun ov w2 => ov = some (.int r) ∧ w2 = (mW a ad cI cZ w1)) hX (hT0.trans hT) hGX (fun cells slots w9 pc lv v => rI cells slots w9 pc lv v rfl) (o := (r, w1)) (fun v9 w9 e9 => by cases e9; exact ⟨rfl, rfl⟩) h
/-! X7_post -/
abbrev rmX7_post : Room := { frames := 5, cells := 0, slots := 0, locals := 119 }
theorem hdX7_post : yX7_post.cls = RX7 ∧ yX7_post.cls ≠ "java/lang/invoke/MethodHandle" ∧ yX7_post.cls ≠ "java/lang/invoke/VarHandle" ∧ (parseMethodDescriptor yX7_post.desc).map (fun d => d.parameters.length) = some 0 := by decide +kernel
theorem inX7_post : ∀ w ∈ wsX70, w ∈ wsX7_post := fun _ h => List.mem_cons_of_mem _ (List.mem_append_right _ h)
theorem lkX7_post_126 : Cond.fieldLink RX7 126 "PostlintModel" (TX7 3).2.1 (TX7 3).2.2.1 ∈ wsX7_post := by decide +kernel
def fX7_post_J22 (n : Nat) (w : MW) (t0 : Int32) : Option (Int32 × MW) := b2 (fX7_isOf w t0) (fun r22 w22 => (if r22 = 0 then some ((0 : Int32), w22) else bnd (mS w22 3 ((w22.1 3) + (1 : Int32))) (fun w37 => bP (fX7_lays n w37 ((w37.1 3) - (1 : Int32))) (fun w47 => bP (fX7_proves n w47 ) (fun w51 => some (((w51.1 3) - (1 : Int32)), w51))))))
def fX7_post_J21 (n : Nat) (w : MW) : Option (Int32 × MW) := fX7_post_J22 n w (1 : Int32)
def fX7_post (n : Nat) (w : MW) : Option (Int32 × MW) := b2 (fX7_canBe n w ) (fun r2 w2 => (if r2 = 0 then fX7_post_J21 n w2  else (if (24 : Int32) ≤ (w2.1 3) then fX7_post_J21 n w2  else fX7_post_J22 n w2 (0 : Int32))))
set_option maxRecDepth 100000 in
set_option maxHeartbeats 4000000 in
theorem sX7_post_J22 {X : JX} {a : Nat} {ad : Nat → Nat} {cI cZ cO cJ : ClassId} {n : Nat} {post : Option Value → va_W → Prop} (hX : jOK X cX7_post 1 wsX7_post RX7 rmX7_post) (hT : jT X = jTy cI cZ cO cJ) (hGX : jG X jG0) (hret : jRI X cX7_post rmX7_post post) {o : (Int32 × MW)}   (hro : ∀ (v9 : Int32) (w9 : MW), o = (v9, w9) → post (some (.int v9)) (mW a ad cI cZ w9)) {w : MW} {t0 : Int32} (h : fX7_post_J22 n w t0 = some o) : JW X 0 0 (mW a ad cI cZ w) 22 [(0, .ref a)] [.int t0, .ref a] := by
  unfold fX7_post_J22 at h
  obtain ⟨r22, w22, hc22, h⟩ := b2_some h
  refine jw_cVi (As := [.int t0]) hX jG0_ok hGX 1 (kX7_isOf hT hc22) gX7_post_X7_isOf rfl hdX7_isOf ⟨by decide, by decide⟩ 0 7 rfl rfl rfl (Nat.le_of_ble_eq_true rfl) dX7_post_22 rfl rfl ⟨by decide, by decide⟩ ?_
  refine jw_if_ne (tgt := 30) hX dX7_post_25 (by decide) (fun hc => ?_) (fun hc => ?_)
  · rw [if_neg hc] at h
    refine jw_aload_n hX dX7_post_30 rfl 0 rfl ?_
    refine jw_dup hX dX7_post_31 rfl ?_
    refine jw_mgetI hX hT inX7_post 3 (by decide) lkX7_post_126 rfl dX7_post_32 ?_
    refine jw_iconst (v := (1 : Int32)) hX dX7_post_35 (by decide) ?_
    refine jw_iadd hX dX7_post_36 ?_
    refine jw_mputI hX hT inX7_post 3 (by decide) lkX7_post_126 rfl dX7_post_37 (fun w37 e37 => ?_)
    replace h := bnd_some h w37 e37
    clear e37
    refine jw_aload_n hX dX7_post_40 rfl 0 rfl ?_
    refine jw_aload_n hX dX7_post_41 rfl 0 rfl ?_
    refine jw_mgetI hX hT inX7_post 3 (by decide) lkX7_post_126 rfl dX7_post_42 ?_
    refine jw_iconst (v := (1 : Int32)) hX dX7_post_45 (by decide) ?_
    refine jw_isub hX dX7_post_46 ?_
    obtain ⟨w47, hc47, h⟩ := bP_some h
    refine jw_cVv (As := [.int ((w37.1 3) - (1 : Int32))]) hX jG0_ok hGX 1 (kX7_lays hT hc47) gX7_post_X7_lays rfl hdX7_lays ⟨by decide, by decide⟩ 0 7 rfl rfl rfl (Nat.le_of_ble_eq_true rfl) dX7_post_47 rfl rfl ⟨by decide, by decide⟩ ?_
    refine jw_aload_n hX dX7_post_50 rfl 0 rfl ?_
    obtain ⟨w51, hc51, h⟩ := bP_some h
    refine jw_cVv (As := []) hX jG0_ok hGX 0 (kX7_proves hT hc51) gX7_post_X7_proves rfl hdX7_proves ⟨by decide, by decide⟩ 0 7 rfl rfl rfl (Nat.le_of_ble_eq_true rfl) dX7_post_51 rfl rfl ⟨by decide, by decide⟩ ?_
    refine jw_aload_n hX dX7_post_54 rfl 0 rfl ?_
    refine jw_mgetI hX hT inX7_post 3 (by decide) lkX7_post_126 rfl dX7_post_55 ?_
    refine jw_iconst (v := (1 : Int32)) hX dX7_post_58 (by decide) ?_
    refine jw_isub hX dX7_post_59 ?_
    exact hret _ _ _ _ _ _ (Nat.zero_le _) (Nat.zero_le _) dX7_post_60 (hro _ _ (Option.some.inj h).symm)
  · rw [if_pos hc] at h
    refine jw_iconst (v := (0 : Int32)) hX dX7_post_28 (by decide) ?_
    exact hret _ _ _ _ _ _ (Nat.zero_le _) (Nat.zero_le _) dX7_post_29 (hro _ _ (Option.some.inj h).symm)
set_option maxRecDepth 100000 in
set_option maxHeartbeats 4000000 in
theorem sX7_post_J21 {X : JX} {a : Nat} {ad : Nat → Nat} {cI cZ cO cJ : ClassId} {n : Nat} {post : Option Value → va_W → Prop} (hX : jOK X cX7_post 1 wsX7_post RX7 rmX7_post) (hT : jT X = jTy cI cZ cO cJ) (hGX : jG X jG0) (hret : jRI X cX7_post rmX7_post post) {o : (Int32 × MW)}   (hro : ∀ (v9 : Int32) (w9 : MW), o = (v9, w9) → post (some (.int v9)) (mW a ad cI cZ w9)) {w : MW} (h : fX7_post_J21 n w  = some o) : JW X 0 0 (mW a ad cI cZ w) 21 [(0, .ref a)] [.ref a] := by
  unfold fX7_post_J21 at h
  refine jw_iconst (v := (1 : Int32)) hX dX7_post_21 (by decide) ?_
  exact sX7_post_J22 hX hT hGX hret hro h
set_option maxRecDepth 100000 in
set_option maxHeartbeats 4000000 in
theorem sX7_post {X : JX} {a : Nat} {ad : Nat → Nat} {cI cZ cO cJ : ClassId} {n : Nat} {post : Option Value → va_W → Prop} (hX : jOK X cX7_post 1 wsX7_post RX7 rmX7_post) (hT : jT X = jTy cI cZ cO cJ) (hGX : jG X jG0) (hret : jRI X cX7_post rmX7_post post) {o : (Int32 × MW)} (hro : ∀ (v9 : Int32) (w9 : MW), o = (v9, w9) → post (some (.int v9)) (mW a ad cI cZ w9)) {w : MW} (h : fX7_post n w  = some o) : JW X 0 0 (mW a ad cI cZ w) 0 [(0, .ref a)] [] := by
  unfold fX7_post at h
  refine jw_aload_n hX dX7_post_0 rfl 0 rfl ?_
  refine jw_aload_n hX dX7_post_1 rfl 0 rfl ?_
  obtain ⟨r2, w2, hc2, h⟩ := b2_some h
  refine jw_cVi (As := []) hX jG0_ok hGX 0 (kX7_canBe hT hc2) gX7_post_X7_canBe rfl hdX7_canBe ⟨by decide, by decide⟩ 0 7 rfl rfl rfl (Nat.le_of_ble_eq_true rfl) dX7_post_2 rfl rfl ⟨by decide, by decide⟩ ?_
  refine jw_if_eq (tgt := 21) hX dX7_post_5 (by decide) (fun hc => ?_) (fun hc => ?_)
  · rw [if_pos hc] at h
    exact sX7_post_J21 hX hT hGX hret hro h
  · rw [if_neg hc] at h
    refine jw_aload_n hX dX7_post_8 rfl 0 rfl ?_
    refine jw_mgetI hX hT inX7_post 3 (by decide) lkX7_post_126 rfl dX7_post_9 ?_
    refine jw_bipush (v := (24 : Int32)) hX dX7_post_12 (by decide) ?_
    refine jw_icmp_ge (tgt := 21) hX dX7_post_14 (by decide) (fun hc => ?_) (fun hc => ?_)
    · rw [if_pos hc] at h
      exact sX7_post_J21 hX hT hGX hret hro h
    · rw [if_neg hc] at h
      refine jw_iconst (v := (0 : Int32)) hX dX7_post_17 (by decide) ?_
      refine jw_goto (tgt := 22) hX dX7_post_18 (by decide) ?_
      exact sX7_post_J22 hX hT hGX hret hro h
set_option maxRecDepth 100000 in
set_option maxHeartbeats 4000000 in
theorem kX7_post {l : Launch} {D : va_G} {tys : List (ClassId × FieldType)} {a : Nat} {ad : Nat → Nat} {cI cZ cO cJ : ClassId} {n : Nat} {w : MW}  {r : Int32} {w1 : MW} (hT : tys = jTy cI cZ cO cJ) (h : fX7_post n w  = some (r, w1)) : CC l jG0 D tys yX7_post wsX7_post rmX7_post [.ref a] (mW a ad cI cZ w) (fun ov w2 => ov = some (.int r) ∧ w2 = (mW a ad cI cZ w1)) := by
  refine CC_of (cc := cX7_post) (maxL := 1) (ret := (some .int)) (by decide) rfl (Nat.le_of_ble_eq_true rfl) ?_
  intro X hD hL hT0 hGX hX rI rZ rV rA
  exact sX7_post (post := fun ov w2 => ov = some (.int r) ∧ w2 = (mW a ad cI cZ w1)) hX (hT0.trans hT) hGX (fun cells slots w9 pc lv v => rI cells slots w9 pc lv v rfl) (o := (r, w1)) (fun v9 w9 e9 => by cases e9; exact ⟨rfl, rfl⟩) h
