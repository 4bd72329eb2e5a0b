/-! X7_readsPosting -/
abbrev rmX7_readsPosting : Room := { frames := 2, cells := 0, slots := 0, locals := 45 }
theorem hdX7_readsPosting : yX7_readsPosting.cls = RX7 ∧ yX7_readsPosting.cls ≠ "java/lang/invoke/MethodHandle" ∧ yX7_readsPosting.cls ≠ "java/lang/invoke/VarHandle" ∧ (parseMethodDescriptor yX7_readsPosting.desc).map (fun d => d.parameters.length) = some 2 := by decide +kernel
theorem inX7_readsPosting : ∀ w ∈ wsX70, w ∈ wsX7_readsPosting := fun _ h => List.mem_cons_of_mem _ (List.mem_append_right _ h)
theorem lkX7_readsPosting_133 : Cond.fieldLink RX7 133 "PostlintModel" (TX7 1).2.1 (TX7 1).2.2.1 ∈ wsX7_readsPosting := by decide +kernel
theorem lkX7_readsPosting_140 : Cond.fieldLink RX7 140 "PostlintModel" (TX7 40).2.1 (TX7 40).2.2.1 ∈ wsX7_readsPosting := by decide +kernel
theorem lkX7_readsPosting_167 : Cond.fieldLink RX7 167 "PostlintModel" (TX7 26).2.1 (TX7 26).2.2.1 ∈ wsX7_readsPosting := by decide +kernel
theorem lkX7_readsPosting_7 : Cond.fieldLink RX7 7 "PostlintModel" (TX7 2).2.1 (TX7 2).2.2.1 ∈ wsX7_readsPosting := by decide +kernel
theorem lkX7_readsPosting_74 : Cond.fieldLink RX7 74 "PostlintModel" (TX7 27).2.1 (TX7 27).2.2.1 ∈ wsX7_readsPosting := by decide +kernel
theorem lkX7_readsPosting_77 : Cond.fieldLink RX7 77 "PostlintModel" (TX7 28).2.1 (TX7 28).2.2.1 ∈ wsX7_readsPosting := by decide +kernel
theorem lkX7_readsPosting_80 : Cond.fieldLink RX7 80 "PostlintModel" (TX7 29).2.1 (TX7 29).2.2.1 ∈ wsX7_readsPosting := by decide +kernel
theorem lkX7_readsPosting_83 : Cond.fieldLink RX7 83 "PostlintModel" (TX7 30).2.1 (TX7 30).2.2.1 ∈ wsX7_readsPosting := by decide +kernel
theorem lkX7_readsPosting_92 : Cond.fieldLink RX7 92 "PostlintModel" (TX7 34).2.1 (TX7 34).2.2.1 ∈ wsX7_readsPosting := by decide +kernel
theorem lkX7_readsPosting_95 : Cond.fieldLink RX7 95 "PostlintModel" (TX7 35).2.1 (TX7 35).2.2.1 ∈ wsX7_readsPosting := by decide +kernel
def fX7_readsPosting_L7 (n : Nat) : Nat → MW → Int32 → Int32 → Int32 → Int32 → Option (Int32 × Int32 × Int32)
  | 0, _, _, _, _, _ => none
  | k + 1, w, v1, v2, v3, v4 => (if (w.1 1) ≤ v4 then some (v1, v2, v3) else chk (inB v4 (mLen 2)) (bP (fX7_isIn (w.2 2 (v4).toNatClampNeg) (48 : Int32) (57 : Int32)) (fun r27 => (if r27 = 0 then some (v1, v2, v3) else chk (inB v4 (mLen 2)) (bnd (((((10 : Int32) * v3) + (w.2 2 (v4).toNatClampNeg)) - (48 : Int32))) (fun y48 => fX7_readsPosting_L7 n k w v1 v2 y48 ((v4 + (1 : Int32)))))))))
def fX7_readsPosting_J99 (n : Nat) (w : MW) (v1 v2 v3 t0 t1 : Int32) : Option MW := chk (inB t1 (mLen 28)) (chk (b01 t0) (bnd (mA w 28 (t1).toNatClampNeg t0) (fun w99 => chk (inB (w99.1 26) (mLen 29)) (bnd (mA w99 29 ((w99.1 26)).toNatClampNeg v3) (fun w109 => chk (inB (w109.1 26) (mLen 30)) (bnd (mA w109 30 ((w109.1 26)).toNatClampNeg (1 : Int32)) (fun w119 => bnd (mS w119 26 ((w119.1 26) + (1 : Int32))) (fun w127 => b2 (fX7_begins w127 v2 (0 : Int32)) (fun r133 w133 => chk (inB v1 (mLen 2)) (bP (fX7_putsSign w133 (w133.2 2 (v1).toNatClampNeg)) (fun w145 => chk (inB (v1 + (1 : Int32)) (mLen 2)) (bP (fX7_putsSign w145 (w145.2 2 ((v1 + (1 : Int32))).toNatClampNeg)) (fun w157 => bP (fX7_putsNumber w157 v3) (fun w162 => chk (inB r133 (mLen 34)) (chk (inB r133 (mLen 35)) (bnd (mA w162 35 (r133).toNatClampNeg ((w162.1 40) - (w162.2 34 (r133).toNatClampNeg))) (fun w183 => some w183)))))))))))))))))
def fX7_readsPosting (n : Nat) (w : MW) (v1 v2 : Int32) : Option MW := bnd ((v1 + (2 : Int32))) (fun y5 => bL3 (fX7_readsPosting_L7 n n w v1 v2 (0 : Int32) y5) (fun x1_7 x2_7 x3_7 => chk (inB x1_7 (mLen 2)) (chk (inB (w.1 26) (mLen 27)) (bnd (mA w 27 ((w.1 26)).toNatClampNeg ((w.2 2 (x1_7).toNatClampNeg) - (97 : Int32))) (fun w72 => chk (inB (x1_7 + (1 : Int32)) (mLen 2)) ((if (w72.2 2 ((x1_7 + (1 : Int32))).toNatClampNeg) = (45 : Int32) then fX7_readsPosting_J99 n w72 x1_7 x2_7 x3_7 (1 : Int32) (w72.1 26) else fX7_readsPosting_J99 n w72 x1_7 x2_7 x3_7 (0 : Int32) (w72.1 26))))))))
set_option maxRecDepth 100000 in
set_option maxHeartbeats 4000000 in
theorem sX7_readsPosting_L7 {X : JX} {a : Nat} {ad : Nat → Nat} {cI cZ cO cJ : ClassId} {n : Nat} {post : Option Value → va_W → Prop} (hX : jOK X cX7_readsPosting 5 wsX7_readsPosting RX7 rmX7_readsPosting) (hT : jT X = jTy cI cZ cO cJ) (hGX : jG X jG0) (hret : jRV X cX7_readsPosting rmX7_readsPosting post) {w : MW} {o : (Int32 × Int32 × Int32)} (hex : ∀ (x1 x2 x3 : Int32), o = (x1, x2, x3) → JW X 0 0 (mW a ad cI cZ w) 55 [(0, .ref a), (1, .int x1), (2, .int x2), (3, .int x3)] [])  : ∀ (k : Nat) (v1 v2 v3 v4 : Int32), fX7_readsPosting_L7 n k w v1 v2 v3 v4 = some o → JW X 0 0 (mW a ad cI cZ w) 7 [(0, .ref a), (1, .int v1), (2, .int v2), (3, .int v3), (4, .int v4)] [] := by
  intro k
  induction k with
  | zero => intro v1 v2 v3 v4 h; cases h
  | succ k hrec0 =>
    intro v1 v2 v3 v4 h
    have hrec := fun (_ : MW) => hrec0
    unfold fX7_readsPosting_L7 at h
    refine jw_iload hX dX7_readsPosting_7 4 rfl ?_
    refine jw_aload_n hX dX7_readsPosting_9 rfl 0 rfl ?_
    refine jw_mgetI hX hT inX7_readsPosting 1 (by decide) lkX7_readsPosting_133 rfl dX7_readsPosting_10 ?_
    refine jw_icmp_ge (tgt := 55) hX dX7_readsPosting_13 (by decide) (fun hc => ?_) (fun hc => ?_)
    · rw [if_pos hc] at h
      refine jw_sub [0, 1, 2, 3] [(0, .ref a), (1, .int v1), (2, .int v2), (3, .int v3)] rfl ?_
      exact hex _ _ _ (Option.some.inj h).symm
    · rw [if_neg hc] at h
      refine jw_aload_n hX dX7_readsPosting_16 rfl 0 rfl ?_
      refine jw_mgetA hX hT inX7_readsPosting 2 (by decide) lkX7_readsPosting_7 rfl dX7_readsPosting_17 ?_
      refine jw_iload hX dX7_readsPosting_20 4 rfl ?_
      obtain ⟨hb22, h⟩ := chk_some h
      refine jw_miald hX hT 0 2 rfl rfl hb22 dX7_readsPosting_22 ?_
      refine jw_bipush (v := (48 : Int32)) hX dX7_readsPosting_23 (by decide) ?_
      refine jw_bipush (v := (57 : Int32)) hX dX7_readsPosting_25 (by decide) ?_
      obtain ⟨r27, hc27, h⟩ := bP_some h
      refine jw_cSi (As := [.int (w.2 2 (v4).toNatClampNeg), .int (48 : Int32), .int (57 : Int32)]) hX jG0_ok hGX 3 (kX7_isIn hT hc27) gX7_readsPosting_X7_isIn rfl hdX7_isIn ⟨by decide, by decide⟩ rfl (Nat.le_of_ble_eq_true rfl) dX7_readsPosting_27 rfl rfl ⟨by decide, by decide⟩ ?_
      refine jw_if_eq (tgt := 55) hX dX7_readsPosting_30 (by decide) (fun hc => ?_) (fun hc => ?_)
      · rw [if_pos hc] at h
        refine jw_sub [0, 1, 2, 3] [(0, .ref a), (1, .int v1), (2, .int v2), (3, .int v3)] rfl ?_
        exact hex _ _ _ (Option.some.inj h).symm
      · rw [if_neg hc] at h
        refine jw_bipush (v := (10 : Int32)) hX dX7_readsPosting_33 (by decide) ?_
        refine jw_iload_n hX dX7_readsPosting_35 rfl 3 rfl ?_
        refine jw_imul hX dX7_readsPosting_36 ?_
        refine jw_aload_n hX dX7_readsPosting_37 rfl 0 rfl ?_
        refine jw_mgetA hX hT inX7_readsPosting 2 (by decide) lkX7_readsPosting_7 rfl dX7_readsPosting_38 ?_
        refine jw_iload hX dX7_readsPosting_41 4 rfl ?_
        obtain ⟨hb43, h⟩ := chk_some h
        refine jw_miald hX hT 0 2 rfl rfl hb43 dX7_readsPosting_43 ?_
        refine jw_iadd hX dX7_readsPosting_44 ?_
        refine jw_bipush (v := (48 : Int32)) hX dX7_readsPosting_45 (by decide) ?_
        refine jw_isub hX dX7_readsPosting_47 ?_
        refine jw_topi (fun y48 e48 => ?_)
        replace h := bnd_some h y48 e48
        clear e48
        refine jw_istore_n hX [(3, .int y48), (0, .ref a), (1, .int v1), (2, .int v2), (4, .int v4)] dX7_readsPosting_48 rfl (by decide) rfl ?_
        refine jw_iinc (v := (v4 + (1 : Int32))) hX [(4, .int (v4 + (1 : Int32))), (3, .int y48), (0, .ref a), (1, .int v1), (2, .int v2)] dX7_readsPosting_49 4 rfl (by first | rfl | (congr 1; decide)) (by decide) rfl ?_
        refine jw_goto (tgt := 7) hX dX7_readsPosting_52 (by decide) ?_
        refine jw_sub [2, 3, 4, 1, 0] [(0, .ref a), (1, .int v1), (2, .int v2), (3, .int y48), (4, .int (v4 + (1 : Int32)))] rfl ?_
        exact hrec w _ _ _ _ h
set_option maxRecDepth 100000 in
set_option maxHeartbeats 4000000 in
theorem sX7_readsPosting_J99 {X : JX} {a : Nat} {ad : Nat → Nat} {cI cZ cO cJ : ClassId} {n : Nat} {post : Option Value → va_W → Prop} (hX : jOK X cX7_readsPosting 5 wsX7_readsPosting RX7 rmX7_readsPosting) (hT : jT X = jTy cI cZ cO cJ) (hGX : jG X jG0) (hret : jRV X cX7_readsPosting rmX7_readsPosting post) {o : MW}   (hro : ∀ w9 : MW, o = w9 → post none (mW a ad cI cZ w9)) {w : MW} {v1 v2 v3 t0 t1 : Int32} (h : fX7_readsPosting_J99 n w v1 v2 v3 t0 t1 = some o) : JW X 0 0 (mW a ad cI cZ w) 99 [(0, .ref a), (1, .int v1), (2, .int v2), (3, .int v3)] [.int t0, .int t1, .ref (ad 28)] := by
  unfold fX7_readsPosting_J99 at h
  obtain ⟨hb99, h⟩ := chk_some h
  obtain ⟨hz99, h⟩ := chk_some h
  refine jw_mzast hX hT 22 28 rfl rfl hb99 hz99 dX7_readsPosting_99 (fun w99 e99 => ?_)
  replace h := bnd_some h w99 e99
  clear e99
  refine jw_aload_n hX dX7_readsPosting_100 rfl 0 rfl ?_
  refine jw_mgetA hX hT inX7_readsPosting 29 (by decide) lkX7_readsPosting_80 rfl dX7_readsPosting_101 ?_
  refine jw_aload_n hX dX7_readsPosting_104 rfl 0 rfl ?_
  refine jw_mgetI hX hT inX7_readsPosting 26 (by decide) lkX7_readsPosting_167 rfl dX7_readsPosting_105 ?_
  refine jw_iload_n hX dX7_readsPosting_108 rfl 3 rfl ?_
  obtain ⟨hb109, h⟩ := chk_some h
  refine jw_miast hX hT 23 29 rfl rfl hb109 dX7_readsPosting_109 (fun w109 e109 => ?_)
  replace h := bnd_some h w109 e109
  clear e109
  refine jw_aload_n hX dX7_readsPosting_110 rfl 0 rfl ?_
  refine jw_mgetA hX hT inX7_readsPosting 30 (by decide) lkX7_readsPosting_83 rfl dX7_readsPosting_111 ?_
  refine jw_aload_n hX dX7_readsPosting_114 rfl 0 rfl ?_
  refine jw_mgetI hX hT inX7_readsPosting 26 (by decide) lkX7_readsPosting_167 rfl dX7_readsPosting_115 ?_
  refine jw_iconst (v := (1 : Int32)) hX dX7_readsPosting_118 (by decide) ?_
  obtain ⟨hb119, h⟩ := chk_some h
  refine jw_miast hX hT 24 30 rfl rfl hb119 dX7_readsPosting_119 (fun w119 e119 => ?_)
  replace h := bnd_some h w119 e119
  clear e119
  refine jw_aload_n hX dX7_readsPosting_120 rfl 0 rfl ?_
  refine jw_dup hX dX7_readsPosting_121 rfl ?_
  refine jw_mgetI hX hT inX7_readsPosting 26 (by decide) lkX7_readsPosting_167 rfl dX7_readsPosting_122 ?_
  refine jw_iconst (v := (1 : Int32)) hX dX7_readsPosting_125 (by decide) ?_
  refine jw_iadd hX dX7_readsPosting_126 ?_
  refine jw_mputI hX hT inX7_readsPosting 26 (by decide) lkX7_readsPosting_167 rfl dX7_readsPosting_127 (fun w127 e127 => ?_)
  replace h := bnd_some h w127 e127
  clear e127
  refine jw_aload_n hX dX7_readsPosting_130 rfl 0 rfl ?_
  refine jw_iload_n hX dX7_readsPosting_131 rfl 2 rfl ?_
  refine jw_iconst (v := (0 : Int32)) hX dX7_readsPosting_132 (by decide) ?_
  obtain ⟨r133, w133, hc133, h⟩ := b2_some h
  refine jw_cVi (As := [.int v2, .int (0 : Int32)]) hX jG0_ok hGX 2 (kX7_begins hT hc133) gX7_readsPosting_X7_begins rfl hdX7_begins ⟨by decide, by decide⟩ 0 7 rfl rfl rfl (Nat.le_of_ble_eq_true rfl) dX7_readsPosting_133 rfl rfl ⟨by decide, by decide⟩ ?_
  refine jw_istore hX [(4, .int r133), (0, .ref a), (1, .int v1), (2, .int v2), (3, .int v3)] dX7_readsPosting_136 (by decide) rfl ?_
  refine jw_aload_n hX dX7_readsPosting_138 rfl 1 rfl ?_
  refine jw_aload_n hX dX7_readsPosting_139 rfl 1 rfl ?_
  refine jw_mgetA hX hT inX7_readsPosting 2 (by decide) lkX7_readsPosting_7 rfl dX7_readsPosting_140 ?_
  refine jw_iload_n hX dX7_readsPosting_143 rfl 2 rfl ?_
  obtain ⟨hb144, h⟩ := chk_some h
  refine jw_miald hX hT 0 2 rfl rfl hb144 dX7_readsPosting_144 ?_
  obtain ⟨w145, hc145, h⟩ := bP_some h
  refine jw_cVv (As := [.int (w133.2 2 (v1).toNatClampNeg)]) hX jG0_ok hGX 1 (kX7_putsSign hT hc145) gX7_readsPosting_X7_putsSign rfl hdX7_putsSign ⟨by decide, by decide⟩ 0 7 rfl rfl rfl (Nat.le_of_ble_eq_true rfl) dX7_readsPosting_145 rfl rfl ⟨by decide, by decide⟩ ?_
  refine jw_aload_n hX dX7_readsPosting_148 rfl 1 rfl ?_
  refine jw_aload_n hX dX7_readsPosting_149 rfl 1 rfl ?_
  refine jw_mgetA hX hT inX7_readsPosting 2 (by decide) lkX7_readsPosting_7 rfl dX7_readsPosting_150 ?_
  refine jw_iload_n hX dX7_readsPosting_153 rfl 2 rfl ?_
  refine jw_iconst (v := (1 : Int32)) hX dX7_readsPosting_154 (by decide) ?_
  refine jw_iadd hX dX7_readsPosting_155 ?_
  obtain ⟨hb156, h⟩ := chk_some h
  refine jw_miald hX hT 0 2 rfl rfl hb156 dX7_readsPosting_156 ?_
  obtain ⟨w157, hc157, h⟩ := bP_some h
  refine jw_cVv (As := [.int (w145.2 2 ((v1 + (1 : Int32))).toNatClampNeg)]) hX jG0_ok hGX 1 (kX7_putsSign hT hc157) gX7_readsPosting_X7_putsSign rfl hdX7_putsSign ⟨by decide, by decide⟩ 0 7 rfl rfl rfl (Nat.le_of_ble_eq_true rfl) dX7_readsPosting_157 rfl rfl ⟨by decide, by decide⟩ ?_
  refine jw_aload_n hX dX7_readsPosting_160 rfl 1 rfl ?_
  refine jw_iload_n hX dX7_readsPosting_161 rfl 4 rfl ?_
  obtain ⟨w162, hc162, h⟩ := bP_some h
  refine jw_cVv (As := [.int v3]) hX jG0_ok hGX 1 (kX7_putsNumber hT hc162) gX7_readsPosting_X7_putsNumber rfl hdX7_putsNumber ⟨by decide, by decide⟩ 0 7 rfl rfl rfl (Nat.le_of_ble_eq_true rfl) dX7_readsPosting_162 rfl rfl ⟨by decide, by decide⟩ ?_
  refine jw_aload_n hX dX7_readsPosting_165 rfl 1 rfl ?_
  refine jw_mgetA hX hT inX7_readsPosting 35 (by decide) lkX7_readsPosting_95 rfl dX7_readsPosting_166 ?_
  refine jw_iload hX dX7_readsPosting_169 0 rfl ?_
  refine jw_aload_n hX dX7_readsPosting_171 rfl 1 rfl ?_
  refine jw_mgetI hX hT inX7_readsPosting 40 (by decide) lkX7_readsPosting_140 rfl dX7_readsPosting_172 ?_
  refine jw_aload_n hX dX7_readsPosting_175 rfl 1 rfl ?_
  refine jw_mgetA hX hT inX7_readsPosting 34 (by decide) lkX7_readsPosting_92 rfl dX7_readsPosting_176 ?_
  refine jw_iload hX dX7_readsPosting_179 0 rfl ?_
  obtain ⟨hb181, h⟩ := chk_some h
  refine jw_miald hX hT 27 34 rfl rfl hb181 dX7_readsPosting_181 ?_
  refine jw_isub hX dX7_readsPosting_182 ?_
  obtain ⟨hb183, h⟩ := chk_some h
  refine jw_miast hX hT 28 35 rfl rfl hb183 dX7_readsPosting_183 (fun w183 e183 => ?_)
  replace h := bnd_some h w183 e183
  clear e183
  exact hret _ _ _ _ _ (Nat.zero_le _) (Nat.zero_le _) dX7_readsPosting_184 (hro _ (Option.some.inj h).symm)
set_option maxRecDepth 100000 in
set_option maxHeartbeats 4000000 in
theorem sX7_readsPosting {X : JX} {a : Nat} {ad : Nat → Nat} {cI cZ cO cJ : ClassId} {n : Nat} {post : Option Value → va_W → Prop} (hX : jOK X cX7_readsPosting 5 wsX7_readsPosting RX7 rmX7_readsPosting) (hT : jT X = jTy cI cZ cO cJ) (hGX : jG X jG0) (hret : jRV X cX7_readsPosting rmX7_readsPosting post) {o : MW} (hro : ∀ w9 : MW, o = w9 → post none (mW a ad cI cZ w9)) {w : MW} {v1 v2 : Int32} (h : fX7_readsPosting n w v1 v2 = some o) : JW X 0 0 (mW a ad cI cZ w) 0 [(0, .ref a), (1, .int v1), (2, .int v2)] [] := by
  unfold fX7_readsPosting at h
  refine jw_iconst (v := (0 : Int32)) hX dX7_readsPosting_0 (by decide) ?_
  refine jw_istore_n hX [(3, .int (0 : Int32)), (0, .ref a), (1, .int v1), (2, .int v2)] dX7_readsPosting_1 rfl (by decide) rfl ?_
  refine jw_iload_n hX dX7_readsPosting_2 rfl 2 rfl ?_
  refine jw_iconst (v := (2 : Int32)) hX dX7_readsPosting_3 (by decide) ?_
  refine jw_iadd hX dX7_readsPosting_4 ?_
  refine jw_topi (fun y5 e5 => ?_)
  replace h := bnd_some h y5 e5
  clear e5
  refine jw_istore hX [(4, .int y5), (3, .int (0 : Int32)), (0, .ref a), (1, .int v1), (2, .int v2)] dX7_readsPosting_5 (by decide) rfl ?_
  refine jw_sub [2, 3, 4, 1, 0] [(0, .ref a), (1, .int v1), (2, .int v2), (3, .int (0 : Int32)), (4, .int y5)] rfl ?_
  obtain ⟨x1_7, x2_7, x3_7, hl7, h⟩ := bL3_some h
  refine sX7_readsPosting_L7 hX hT hGX hret (o := (x1_7, x2_7, x3_7)) (fun q0 q1 q2 e9 => ?_) n _ _ _ _ hl7
  cases e9
  refine jw_aload_n hX dX7_readsPosting_55 rfl 0 rfl ?_
  refine jw_mgetA hX hT inX7_readsPosting 27 (by decide) lkX7_readsPosting_74 rfl dX7_readsPosting_56 ?_
  refine jw_aload_n hX dX7_readsPosting_59 rfl 0 rfl ?_
  refine jw_mgetI hX hT inX7_readsPosting 26 (by decide) lkX7_readsPosting_167 rfl dX7_readsPosting_60 ?_
  refine jw_aload_n hX dX7_readsPosting_63 rfl 0 rfl ?_
  refine jw_mgetA hX hT inX7_readsPosting 2 (by decide) lkX7_readsPosting_7 rfl dX7_readsPosting_64 ?_
  refine jw_iload_n hX dX7_readsPosting_67 rfl 1 rfl ?_
  obtain ⟨hb68, h⟩ := chk_some h
  refine jw_miald hX hT 0 2 rfl rfl hb68 dX7_readsPosting_68 ?_
  refine jw_bipush (v := (97 : Int32)) hX dX7_readsPosting_69 (by decide) ?_
  refine jw_isub hX dX7_readsPosting_71 ?_
  obtain ⟨hb72, h⟩ := chk_some h
  refine jw_miast hX hT 21 27 rfl rfl hb72 dX7_readsPosting_72 (fun w72 e72 => ?_)
  replace h := bnd_some h w72 e72
  clear e72
  refine jw_aload_n hX dX7_readsPosting_73 rfl 0 rfl ?_
  refine jw_mgetA hX hT inX7_readsPosting 28 (by decide) lkX7_readsPosting_77 rfl dX7_readsPosting_74 ?_
  refine jw_aload_n hX dX7_readsPosting_77 rfl 0 rfl ?_
  refine jw_mgetI hX hT inX7_readsPosting 26 (by decide) lkX7_readsPosting_167 rfl dX7_readsPosting_78 ?_
  refine jw_aload_n hX dX7_readsPosting_81 rfl 0 rfl ?_
  refine jw_mgetA hX hT inX7_readsPosting 2 (by decide) lkX7_readsPosting_7 rfl dX7_readsPosting_82 ?_
  refine jw_iload_n hX dX7_readsPosting_85 rfl 1 rfl ?_
  refine jw_iconst (v := (1 : Int32)) hX dX7_readsPosting_86 (by decide) ?_
  refine jw_iadd hX dX7_readsPosting_87 ?_
  obtain ⟨hb88, h⟩ := chk_some h
  refine jw_miald hX hT 0 2 rfl rfl hb88 dX7_readsPosting_88 ?_
  refine jw_bipush (v := (45 : Int32)) hX dX7_readsPosting_89 (by decide) ?_
  refine jw_icmp_ne (tgt := 98) hX dX7_readsPosting_91 (by decide) (fun hc => ?_) (fun hc => ?_)
  · rw [if_neg hc] at h
    refine jw_iconst (v := (0 : Int32)) hX dX7_readsPosting_98 (by decide) ?_
    exact sX7_readsPosting_J99 hX hT hGX hret hro h
  · rw [if_pos hc] at h
    refine jw_iconst (v := (1 : Int32)) hX dX7_readsPosting_94 (by decide) ?_
    refine jw_goto (tgt := 99) hX dX7_readsPosting_95 (by decide) ?_
    exact sX7_readsPosting_J99 hX hT hGX hret hro h
set_option maxRecDepth 100000 in
set_option maxHeartbeats 4000000 in
theorem kX7_readsPosting {l : Launch} {D : va_G} {tys : List (ClassId × FieldType)} {a : Nat} {ad : Nat → Nat} {cI cZ cO cJ : ClassId} {n : Nat} {w : MW} {v1 v2 : Int32} {w1 : MW} (hT : tys = jTy cI cZ cO cJ) (h : fX7_readsPosting n w v1 v2 = some w1) : CC l jG0 D tys yX7_readsPosting wsX7_readsPosting rmX7_readsPosting [.ref a, .int v1, .int v2] (mW a ad cI cZ w) (fun ov w2 => ov = none ∧ w2 = (mW a ad cI cZ w1)) := by
  refine CC_of (cc := cX7_readsPosting) (maxL := 5) (ret := none) (by decide) rfl (Nat.le_of_ble_eq_true rfl) ?_
  intro X hD hL hT0 hGX hX rI rZ rV rA
  exact sX7_readsPosting (post := fun ov w2 => ov = none ∧ w2 = (mW a ad cI cZ w1)) hX (hT0.trans hT) hGX (fun cells slots w9 pc lv => rV cells slots w9 pc lv rfl) (o := w1) (fun w9 e9 => by cases e9; exact ⟨rfl, rfl⟩) h
