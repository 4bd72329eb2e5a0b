/-! X7_isDoubted -/
abbrev rmX7_isDoubted : Room := { frames := 3, cells := 0, slots := 0, locals := 69 }
theorem hdX7_isDoubted : yX7_isDoubted.cls = RX7 ∧ yX7_isDoubted.cls ≠ "java/lang/invoke/MethodHandle" ∧ yX7_isDoubted.cls ≠ "java/lang/invoke/VarHandle" ∧ (parseMethodDescriptor yX7_isDoubted.desc).map (fun d => d.parameters.length) = some 2 := by decide +kernel
theorem inX7_isDoubted : ∀ w ∈ wsX70, w ∈ wsX7_isDoubted := fun _ h => List.mem_cons_of_mem _ (List.mem_append_right _ h)
theorem lkX7_isDoubted_13 : Cond.fieldLink RX7 13 "PostlintModel" (TX7 4).2.1 (TX7 4).2.2.1 ∈ wsX7_isDoubted := by decide +kernel
theorem lkX7_isDoubted_47 : Cond.fieldLink RX7 47 "PostlintModel" (TX7 16).2.1 (TX7 16).2.2.1 ∈ wsX7_isDoubted := by decide +kernel
theorem lkX7_isDoubted_50 : Cond.fieldLink RX7 50 "PostlintModel" (TX7 17).2.1 (TX7 17).2.2.1 ∈ wsX7_isDoubted := by decide +kernel
theorem lkX7_isDoubted_53 : Cond.fieldLink RX7 53 "PostlintModel" (TX7 18).2.1 (TX7 18).2.2.1 ∈ wsX7_isDoubted := by decide +kernel
theorem lkX7_isDoubted_56 : Cond.fieldLink RX7 56 "PostlintModel" (TX7 19).2.1 (TX7 19).2.2.1 ∈ wsX7_isDoubted := by decide +kernel
theorem lkX7_isDoubted_59 : Cond.fieldLink RX7 59 "PostlintModel" (TX7 20).2.1 (TX7 20).2.2.1 ∈ wsX7_isDoubted := by decide +kernel
def fX7_isDoubted_L156 (n : Nat) : Nat → MW → Int32 → Int32 → Int32 → Option (Int32)
  | 0, _, _, _, _ => none
  | k + 1, w, v1, v3, v4 => (if (8 : Int32) ≤ v4 then some (v3) else bP (fX7_got n w v1 v4) (fun r168 => bnd ((v3 + r168)) (fun y172 => fX7_isDoubted_L156 n k w v1 y172 ((v4 + (1 : Int32))))))
def fX7_isDoubted (n : Nat) (w : MW) (v1 v2 : Int32) : Option Int32 := chk (inB v2 (mLen 20)) ((if (w.2 20 (v2).toNatClampNeg) = 0 then chk (inB v2 (mLen 16)) ((if (w.2 16 (v2).toNatClampNeg) = (3 : Int32) then chk (inB v2 (mLen 17)) (bP (fX7_upTo n w v1 (w.2 17 (v2).toNatClampNeg)) (fun r29 => chk (inB v2 (mLen 19)) ((if (w.2 19 (v2).toNatClampNeg) ≤ r29 then chk (b01 (0 : Int32)) (some (0 : Int32)) else chk (b01 (1 : Int32)) (some (1 : Int32)))))) else chk (inB v1 (mLen 4)) ((if (w.2 4 (v1).toNatClampNeg) = 0 then chk (inB v2 (mLen 16)) ((if (w.2 16 (v2).toNatClampNeg) = (2 : Int32) then chk (inB v2 (mLen 17)) (bP (fX7_has n w v1 (w.2 17 (v2).toNatClampNeg)) (fun r76 => (if r76 = 0 then chk (b01 (0 : Int32)) (some (0 : Int32)) else chk (inB v2 (mLen 18)) (bP (fX7_has n w v1 (w.2 18 (v2).toNatClampNeg)) (fun r90 => (if r90 = 0 then chk (b01 (1 : Int32)) (some (1 : Int32)) else chk (b01 (0 : Int32)) (some (0 : Int32)))))))) else chk (inB v2 (mLen 16)) ((if (w.2 16 (v2).toNatClampNeg) = (1 : Int32) then chk (inB v2 (mLen 17)) (bP (fX7_got n w v1 (w.2 17 (v2).toNatClampNeg)) (fun r120 => chk (inB v2 (mLen 19)) ((if (w.2 19 (v2).toNatClampNeg) < r120 then chk (b01 (1 : Int32)) (some (1 : Int32)) else chk (inB v2 (mLen 19)) ((if (-(w.2 19 (v2).toNatClampNeg)) ≤ r120 then chk (b01 (0 : Int32)) (some (0 : Int32)) else chk (b01 (1 : Int32)) (some (1 : Int32)))))))) else bL1 (fX7_isDoubted_L156 n n w v1 (0 : Int32) (0 : Int32)) (fun x3_156 => (if x3_156 = 0 then chk (b01 (0 : Int32)) (some (0 : Int32)) else chk (b01 (1 : Int32)) (some (1 : Int32)))))))) else chk (b01 (0 : Int32)) (some (0 : Int32)))))) else chk (b01 (0 : Int32)) (some (0 : Int32))))
set_option maxRecDepth 100000 in
set_option maxHeartbeats 4000000 in
theorem sX7_isDoubted_L156 {X : JX} {a : Nat} {ad : Nat → Nat} {cI cZ cO cJ : ClassId} {n : Nat} {w : MW} {post : Option Value → va_W → Prop} (hX : jOK X cX7_isDoubted 5 wsX7_isDoubted RX7 rmX7_isDoubted) (hT : jT X = jTy cI cZ cO cJ) (hGX : jG X jG0) (hret : jRZ X cX7_isDoubted rmX7_isDoubted post) {o : (Int32)} (hex : ∀ (x3 : Int32), o = x3 → JW X 0 0 (mW a ad cI cZ w) 179 [(3, .int x3)] [])  : ∀ (k : Nat) (v1 v3 v4 : Int32), fX7_isDoubted_L156 n k w v1 v3 v4 = some o → JW X 0 0 (mW a ad cI cZ w) 156 [(0, .ref a), (1, .int v1), (3, .int v3), (4, .int v4)] [] := by
  intro k
  induction k with
  | zero => intro v1 v3 v4 h; cases h
  | succ k hrec0 =>
    intro v1 v3 v4 h
    have hrec := fun (_ : MW) => hrec0
    unfold fX7_isDoubted_L156 at h
    refine jw_iload hX dX7_isDoubted_156 3 rfl ?_
    refine jw_bipush (v := (8 : Int32)) hX dX7_isDoubted_158 (by decide) ?_
    refine jw_icmp_ge (tgt := 179) hX dX7_isDoubted_160 (by decide) (fun hc => ?_) (fun hc => ?_)
    · rw [if_pos hc] at h
      refine jw_sub [2] [(3, .int v3)] rfl ?_
      exact hex _ (Option.some.inj h).symm
    · rw [if_neg hc] at h
      refine jw_iload_n hX dX7_isDoubted_163 rfl 2 rfl ?_
      refine jw_aload_n hX dX7_isDoubted_164 rfl 0 rfl ?_
      refine jw_iload_n hX dX7_isDoubted_165 rfl 1 rfl ?_
      refine jw_iload hX dX7_isDoubted_166 3 rfl ?_
      obtain ⟨r168, hc168, h⟩ := bP_some h
      refine jw_cVi (As := [.int v1, .int v4]) hX jG0_ok hGX 2 (kX7_got hT hc168) gX7_isDoubted_X7_got rfl hdX7_got ⟨by decide, by decide⟩ 0 7 rfl rfl rfl (Nat.le_of_ble_eq_true rfl) dX7_isDoubted_168 rfl rfl ⟨by decide, by decide⟩ ?_
      refine jw_iadd hX dX7_isDoubted_171 ?_
      refine jw_topi (fun y172 e172 => ?_)
      replace h := bnd_some h y172 e172
      clear e172
      refine jw_istore_n hX [(3, .int y172), (0, .ref a), (1, .int v1), (4, .int v4)] dX7_isDoubted_172 rfl (by decide) rfl ?_
      refine jw_iinc (v := (v4 + (1 : Int32))) hX [(4, .int (v4 + (1 : Int32))), (3, .int y172), (0, .ref a), (1, .int v1)] dX7_isDoubted_173 3 rfl (by first | rfl | (congr 1; decide)) (by decide) rfl ?_
      refine jw_goto (tgt := 156) hX dX7_isDoubted_176 (by decide) ?_
      refine jw_sub [2, 3, 1, 0] [(0, .ref a), (1, .int v1), (3, .int y172), (4, .int (v4 + (1 : Int32)))] rfl ?_
      exact hrec w _ _ _ h
set_option maxRecDepth 100000 in
set_option maxHeartbeats 4000000 in
theorem sX7_isDoubted {X : JX} {a : Nat} {ad : Nat → Nat} {cI cZ cO cJ : ClassId} {n : Nat} {w : MW} {post : Option Value → va_W → Prop} (hX : jOK X cX7_isDoubted 5 wsX7_isDoubted RX7 rmX7_isDoubted) (hT : jT X = jTy cI cZ cO cJ) (hGX : jG X jG0) (hret : jRZ X cX7_isDoubted rmX7_isDoubted post) {o : Int32} (hro : ∀ v9 : Int32, o = v9 → post (some (.int v9)) (mW a ad cI cZ w)) {v1 v2 : Int32} (h : fX7_isDoubted n w v1 v2 = some o) : JW X 0 0 (mW a ad cI cZ w) 0 [(0, .ref a), (1, .int v1), (2, .int v2)] [] := by
  unfold fX7_isDoubted at h
  refine jw_aload_n hX dX7_isDoubted_0 rfl 0 rfl ?_
  refine jw_mgetA hX hT inX7_isDoubted 20 (by decide) lkX7_isDoubted_59 rfl dX7_isDoubted_1 ?_
  refine jw_iload_n hX dX7_isDoubted_4 rfl 2 rfl ?_
  obtain ⟨hb5, h⟩ := chk_some h
  refine jw_mzald hX hT 16 20 rfl rfl hb5 dX7_isDoubted_5 ?_
  refine jw_if_eq (tgt := 11) hX dX7_isDoubted_6 (by decide) (fun hc => ?_) (fun hc => ?_)
  · rw [if_pos hc] at h
    refine jw_aload_n hX dX7_isDoubted_11 rfl 0 rfl ?_
    refine jw_mgetA hX hT inX7_isDoubted 16 (by decide) lkX7_isDoubted_47 rfl dX7_isDoubted_12 ?_
    refine jw_iload_n hX dX7_isDoubted_15 rfl 2 rfl ?_
    obtain ⟨hb16, h⟩ := chk_some h
    refine jw_miald hX hT 12 16 rfl rfl hb16 dX7_isDoubted_16 ?_
    refine jw_iconst (v := (3 : Int32)) hX dX7_isDoubted_17 (by decide) ?_
    refine jw_icmp_ne (tgt := 47) hX dX7_isDoubted_18 (by decide) (fun hc => ?_) (fun hc => ?_)
    · rw [if_neg hc] at h
      refine jw_aload_n hX dX7_isDoubted_47 rfl 0 rfl ?_
      refine jw_mgetA hX hT inX7_isDoubted 4 (by decide) lkX7_isDoubted_13 rfl dX7_isDoubted_48 ?_
      refine jw_iload_n hX dX7_isDoubted_51 rfl 1 rfl ?_
      obtain ⟨hb52, h⟩ := chk_some h
      refine jw_mzald hX hT 1 4 rfl rfl hb52 dX7_isDoubted_52 ?_
      refine jw_if_eq (tgt := 58) hX dX7_isDoubted_53 (by decide) (fun hc => ?_) (fun hc => ?_)
      · rw [if_pos hc] at h
        refine jw_aload_n hX dX7_isDoubted_58 rfl 0 rfl ?_
        refine jw_mgetA hX hT inX7_isDoubted 16 (by decide) lkX7_isDoubted_47 rfl dX7_isDoubted_59 ?_
        refine jw_iload_n hX dX7_isDoubted_62 rfl 2 rfl ?_
        obtain ⟨hb63, h⟩ := chk_some h
        refine jw_miald hX hT 12 16 rfl rfl hb63 dX7_isDoubted_63 ?_
        refine jw_iconst (v := (2 : Int32)) hX dX7_isDoubted_64 (by decide) ?_
        refine jw_icmp_ne (tgt := 102) hX dX7_isDoubted_65 (by decide) (fun hc => ?_) (fun hc => ?_)
        · rw [if_neg hc] at h
          refine jw_aload_n hX dX7_isDoubted_102 rfl 0 rfl ?_
          refine jw_mgetA hX hT inX7_isDoubted 16 (by decide) lkX7_isDoubted_47 rfl dX7_isDoubted_103 ?_
          refine jw_iload_n hX dX7_isDoubted_106 rfl 2 rfl ?_
          obtain ⟨hb107, h⟩ := chk_some h
          refine jw_miald hX hT 12 16 rfl rfl hb107 dX7_isDoubted_107 ?_
          refine jw_iconst (v := (1 : Int32)) hX dX7_isDoubted_108 (by decide) ?_
          refine jw_icmp_ne (tgt := 151) hX dX7_isDoubted_109 (by decide) (fun hc => ?_) (fun hc => ?_)
          · rw [if_neg hc] at h
            refine jw_iconst (v := (0 : Int32)) hX dX7_isDoubted_151 (by decide) ?_
            refine jw_istore_n hX [(3, .int (0 : Int32)), (0, .ref a), (1, .int v1), (2, .int v2)] dX7_isDoubted_152 rfl (by decide) rfl ?_
            refine jw_iconst (v := (0 : Int32)) hX dX7_isDoubted_153 (by decide) ?_
            refine jw_istore hX [(4, .int (0 : Int32)), (3, .int (0 : Int32)), (0, .ref a), (1, .int v1), (2, .int v2)] dX7_isDoubted_154 (by decide) rfl ?_
            refine jw_sub [2, 3, 1, 0] [(0, .ref a), (1, .int v1), (3, .int (0 : Int32)), (4, .int (0 : Int32))] rfl ?_
            obtain ⟨x3_156, hl156, h⟩ := bL1_some h
            refine sX7_isDoubted_L156 hX hT hGX hret (o := x3_156) (fun q0 e9 => ?_) n _ _ _ hl156
            cases e9
            refine jw_iload_n hX dX7_isDoubted_179 rfl 0 rfl ?_
            refine jw_if_eq (tgt := 187) hX dX7_isDoubted_180 (by decide) (fun hc => ?_) (fun hc => ?_)
            · rw [if_pos hc] at h
              refine jw_iconst (v := (0 : Int32)) hX dX7_isDoubted_187 (by decide) ?_
              obtain ⟨hz188, h⟩ := chk_some h
              exact hret _ _ _ _ _ _ (b01_or hz188) (Nat.zero_le _) (Nat.zero_le _) dX7_isDoubted_188 (hro _ (Option.some.inj h).symm)
            · rw [if_neg hc] at h
              refine jw_iconst (v := (1 : Int32)) hX dX7_isDoubted_183 (by decide) ?_
              refine jw_goto (tgt := 188) hX dX7_isDoubted_184 (by decide) ?_
              obtain ⟨hz188, h⟩ := chk_some h
              exact hret _ _ _ _ _ _ (b01_or hz188) (Nat.zero_le _) (Nat.zero_le _) dX7_isDoubted_188 (hro _ (Option.some.inj h).symm)
          · rw [if_pos hc] at h
            refine jw_aload_n hX dX7_isDoubted_112 rfl 0 rfl ?_
            refine jw_iload_n hX dX7_isDoubted_113 rfl 1 rfl ?_
            refine jw_aload_n hX dX7_isDoubted_114 rfl 0 rfl ?_
            refine jw_mgetA hX hT inX7_isDoubted 17 (by decide) lkX7_isDoubted_50 rfl dX7_isDoubted_115 ?_
            refine jw_iload_n hX dX7_isDoubted_118 rfl 2 rfl ?_
            obtain ⟨hb119, h⟩ := chk_some h
            refine jw_miald hX hT 13 17 rfl rfl hb119 dX7_isDoubted_119 ?_
            obtain ⟨r120, hc120, h⟩ := bP_some h
            refine jw_cVi (As := [.int v1, .int (w.2 17 (v2).toNatClampNeg)]) hX jG0_ok hGX 2 (kX7_got hT hc120) gX7_isDoubted_X7_got rfl hdX7_got ⟨by decide, by decide⟩ 0 7 rfl rfl rfl (Nat.le_of_ble_eq_true rfl) dX7_isDoubted_120 rfl rfl ⟨by decide, by decide⟩ ?_
            refine jw_istore_n hX [(3, .int r120), (0, .ref a), (1, .int v1), (2, .int v2)] dX7_isDoubted_123 rfl (by decide) rfl ?_
            refine jw_iload_n hX dX7_isDoubted_124 rfl 0 rfl ?_
            refine jw_aload_n hX dX7_isDoubted_125 rfl 1 rfl ?_
            refine jw_mgetA hX hT inX7_isDoubted 19 (by decide) lkX7_isDoubted_56 rfl dX7_isDoubted_126 ?_
            refine jw_iload_n hX dX7_isDoubted_129 rfl 3 rfl ?_
            obtain ⟨hb130, h⟩ := chk_some h
            refine jw_miald hX hT 15 19 rfl rfl hb130 dX7_isDoubted_130 ?_
            refine jw_icmp_gt (tgt := 145) hX dX7_isDoubted_131 (by decide) (fun hc => ?_) (fun hc => ?_)
            · rw [if_pos hc] at h
              refine jw_iconst (v := (1 : Int32)) hX dX7_isDoubted_145 (by decide) ?_
              refine jw_goto (tgt := 150) hX dX7_isDoubted_146 (by decide) ?_
              obtain ⟨hz150, h⟩ := chk_some h
              exact hret _ _ _ _ _ _ (b01_or hz150) (Nat.zero_le _) (Nat.zero_le _) dX7_isDoubted_150 (hro _ (Option.some.inj h).symm)
            · rw [if_neg hc] at h
              refine jw_iload_n hX dX7_isDoubted_134 rfl 0 rfl ?_
              refine jw_aload_n hX dX7_isDoubted_135 rfl 1 rfl ?_
              refine jw_mgetA hX hT inX7_isDoubted 19 (by decide) lkX7_isDoubted_56 rfl dX7_isDoubted_136 ?_
              refine jw_iload_n hX dX7_isDoubted_139 rfl 3 rfl ?_
              obtain ⟨hb140, h⟩ := chk_some h
              refine jw_miald hX hT 15 19 rfl rfl hb140 dX7_isDoubted_140 ?_
              refine jw_ineg hX dX7_isDoubted_141 ?_
              refine jw_icmp_ge (tgt := 149) hX dX7_isDoubted_142 (by decide) (fun hc => ?_) (fun hc => ?_)
              · rw [if_pos hc] at h
                refine jw_iconst (v := (0 : Int32)) hX dX7_isDoubted_149 (by decide) ?_
                obtain ⟨hz150, h⟩ := chk_some h
                exact hret _ _ _ _ _ _ (b01_or hz150) (Nat.zero_le _) (Nat.zero_le _) dX7_isDoubted_150 (hro _ (Option.some.inj h).symm)
              · rw [if_neg hc] at h
                refine jw_iconst (v := (1 : Int32)) hX dX7_isDoubted_145 (by decide) ?_
                refine jw_goto (tgt := 150) hX dX7_isDoubted_146 (by decide) ?_
                obtain ⟨hz150, h⟩ := chk_some h
                exact hret _ _ _ _ _ _ (b01_or hz150) (Nat.zero_le _) (Nat.zero_le _) dX7_isDoubted_150 (hro _ (Option.some.inj h).symm)
        · rw [if_pos hc] at h
          refine jw_aload_n hX dX7_isDoubted_68 rfl 0 rfl ?_
          refine jw_iload_n hX dX7_isDoubted_69 rfl 1 rfl ?_
          refine jw_aload_n hX dX7_isDoubted_70 rfl 0 rfl ?_
          refine jw_mgetA hX hT inX7_isDoubted 17 (by decide) lkX7_isDoubted_50 rfl dX7_isDoubted_71 ?_
          refine jw_iload_n hX dX7_isDoubted_74 rfl 2 rfl ?_
          obtain ⟨hb75, h⟩ := chk_some h
          refine jw_miald hX hT 13 17 rfl rfl hb75 dX7_isDoubted_75 ?_
          obtain ⟨r76, hc76, h⟩ := bP_some h
          refine jw_cVi (As := [.int v1, .int (w.2 17 (v2).toNatClampNeg)]) hX jG0_ok hGX 2 (kX7_has hT hc76) gX7_isDoubted_X7_has rfl hdX7_has ⟨by decide, by decide⟩ 0 7 rfl rfl rfl (Nat.le_of_ble_eq_true rfl) dX7_isDoubted_76 rfl rfl ⟨by decide, by decide⟩ ?_
          refine jw_if_eq (tgt := 100) hX dX7_isDoubted_79 (by decide) (fun hc => ?_) (fun hc => ?_)
          · rw [if_pos hc] at h
            refine jw_iconst (v := (0 : Int32)) hX dX7_isDoubted_100 (by decide) ?_
            obtain ⟨hz101, h⟩ := chk_some h
            exact hret _ _ _ _ _ _ (b01_or hz101) (Nat.zero_le _) (Nat.zero_le _) dX7_isDoubted_101 (hro _ (Option.some.inj h).symm)
          · rw [if_neg hc] at h
            refine jw_aload_n hX dX7_isDoubted_82 rfl 0 rfl ?_
            refine jw_iload_n hX dX7_isDoubted_83 rfl 1 rfl ?_
            refine jw_aload_n hX dX7_isDoubted_84 rfl 0 rfl ?_
            refine jw_mgetA hX hT inX7_isDoubted 18 (by decide) lkX7_isDoubted_53 rfl dX7_isDoubted_85 ?_
            refine jw_iload_n hX dX7_isDoubted_88 rfl 2 rfl ?_
            obtain ⟨hb89, h⟩ := chk_some h
            refine jw_miald hX hT 14 18 rfl rfl hb89 dX7_isDoubted_89 ?_
            obtain ⟨r90, hc90, h⟩ := bP_some h
            refine jw_cVi (As := [.int v1, .int (w.2 18 (v2).toNatClampNeg)]) hX jG0_ok hGX 2 (kX7_has hT hc90) gX7_isDoubted_X7_has rfl hdX7_has ⟨by decide, by decide⟩ 0 7 rfl rfl rfl (Nat.le_of_ble_eq_true rfl) dX7_isDoubted_90 rfl rfl ⟨by decide, by decide⟩ ?_
            refine jw_if_ne (tgt := 100) hX dX7_isDoubted_93 (by decide) (fun hc => ?_) (fun hc => ?_)
            · rw [if_neg hc] at h
              refine jw_iconst (v := (0 : Int32)) hX dX7_isDoubted_100 (by decide) ?_
              obtain ⟨hz101, h⟩ := chk_some h
              exact hret _ _ _ _ _ _ (b01_or hz101) (Nat.zero_le _) (Nat.zero_le _) dX7_isDoubted_101 (hro _ (Option.some.inj h).symm)
            · rw [if_pos hc] at h
              refine jw_iconst (v := (1 : Int32)) hX dX7_isDoubted_96 (by decide) ?_
              refine jw_goto (tgt := 101) hX dX7_isDoubted_97 (by decide) ?_
              obtain ⟨hz101, h⟩ := chk_some h
              exact hret _ _ _ _ _ _ (b01_or hz101) (Nat.zero_le _) (Nat.zero_le _) dX7_isDoubted_101 (hro _ (Option.some.inj h).symm)
      · rw [if_neg hc] at h
        refine jw_iconst (v := (0 : Int32)) hX dX7_isDoubted_56 (by decide) ?_
        obtain ⟨hz57, h⟩ := chk_some h
        exact hret _ _ _ _ _ _ (b01_or hz57) (Nat.zero_le _) (Nat.zero_le _) dX7_isDoubted_57 (hro _ (Option.some.inj h).symm)
    · rw [if_pos hc] at h
      refine jw_aload_n hX dX7_isDoubted_21 rfl 0 rfl ?_
      refine jw_iload_n hX dX7_isDoubted_22 rfl 1 rfl ?_
      refine jw_aload_n hX dX7_isDoubted_23 rfl 0 rfl ?_
      refine jw_mgetA hX hT inX7_isDoubted 17 (by decide) lkX7_isDoubted_50 rfl dX7_isDoubted_24 ?_
      refine jw_iload_n hX dX7_isDoubted_27 rfl 2 rfl ?_
      obtain ⟨hb28, h⟩ := chk_some h
      refine jw_miald hX hT 13 17 rfl rfl hb28 dX7_isDoubted_28 ?_
      obtain ⟨r29, hc29, h⟩ := bP_some h
      refine jw_cVi (As := [.int v1, .int (w.2 17 (v2).toNatClampNeg)]) hX jG0_ok hGX 2 (kX7_upTo hT hc29) gX7_isDoubted_X7_upTo rfl hdX7_upTo ⟨by decide, by decide⟩ 0 7 rfl rfl rfl (Nat.le_of_ble_eq_true rfl) dX7_isDoubted_29 rfl rfl ⟨by decide, by decide⟩ ?_
      refine jw_aload_n hX dX7_isDoubted_32 rfl 0 rfl ?_
      refine jw_mgetA hX hT inX7_isDoubted 19 (by decide) lkX7_isDoubted_56 rfl dX7_isDoubted_33 ?_
      refine jw_iload_n hX dX7_isDoubted_36 rfl 2 rfl ?_
      obtain ⟨hb37, h⟩ := chk_some h
      refine jw_miald hX hT 15 19 rfl rfl hb37 dX7_isDoubted_37 ?_
      refine jw_icmp_ge (tgt := 45) hX dX7_isDoubted_38 (by decide) (fun hc => ?_) (fun hc => ?_)
      · rw [if_pos hc] at h
        refine jw_iconst (v := (0 : Int32)) hX dX7_isDoubted_45 (by decide) ?_
        obtain ⟨hz46, h⟩ := chk_some h
        exact hret _ _ _ _ _ _ (b01_or hz46) (Nat.zero_le _) (Nat.zero_le _) dX7_isDoubted_46 (hro _ (Option.some.inj h).symm)
      · rw [if_neg hc] at h
        refine jw_iconst (v := (1 : Int32)) hX dX7_isDoubted_41 (by decide) ?_
        refine jw_goto (tgt := 46) hX dX7_isDoubted_42 (by decide) ?_
        obtain ⟨hz46, h⟩ := chk_some h
        exact hret _ _ _ _ _ _ (b01_or hz46) (Nat.zero_le _) (Nat.zero_le _) dX7_isDoubted_46 (hro _ (Option.some.inj h).symm)
  · rw [if_neg hc] at h
    refine jw_iconst (v := (0 : Int32)) hX dX7_isDoubted_9 (by decide) ?_
    obtain ⟨hz10, h⟩ := chk_some h
    exact hret _ _ _ _ _ _ (b01_or hz10) (Nat.zero_le _) (Nat.zero_le _) dX7_isDoubted_10 (hro _ (Option.some.inj h).symm)
set_option maxRecDepth 100000 in
set_option maxHeartbeats 4000000 in
theorem kX7_isDoubted {l : Launch} {D : va_G} {tys : List (ClassId × FieldType)} {a : Nat} {ad : Nat → Nat} {cI cZ cO cJ : ClassId} {n : Nat} {w : MW} {v1 v2 : Int32} {r : Int32} (hT : tys = jTy cI cZ cO cJ) (h : fX7_isDoubted n w v1 v2 = some r) : CC l jG0 D tys yX7_isDoubted wsX7_isDoubted rmX7_isDoubted [.ref a, .int v1, .int v2] (mW a ad cI cZ w) (fun ov w2 => ov = some (.int r) ∧ w2 = (mW a ad cI cZ w)) := by
  refine CC_of (cc := cX7_isDoubted) (maxL := 5) (ret := (some .boolean)) (by decide) rfl (Nat.le_of_ble_eq_true rfl) ?_
  intro X hD hL hT0 hGX hX rI rZ rV rA
  exact sX7_isDoubted (post := fun ov w2 => ov = some (.int r) ∧ w2 = (mW a ad cI cZ w)) hX (hT0.trans hT) hGX (fun cells slots w9 pc lv v => rZ cells slots w9 pc lv v rfl) (o := r) (fun v9 e9 => by cases e9; exact ⟨rfl, rfl⟩) h
/-! X7_doubtedBy -/
abbrev rmX7_doubtedBy : Room := { frames := 4, cells := 0, slots := 0, locals := 93 }
theorem hdX7_doubtedBy : yX7_doubtedBy.cls = RX7 ∧ yX7_doubtedBy.cls ≠ "java/lang/invoke/MethodHandle" ∧ yX7_doubtedBy.cls ≠ "java/lang/invoke/VarHandle" ∧ (parseMethodDescriptor yX7_doubtedBy.desc).map (fun d => d.parameters.length) = some 1 := by decide +kernel
theorem inX7_doubtedBy : ∀ w ∈ wsX70, w ∈ wsX7_doubtedBy := fun _ h => List.mem_cons_of_mem _ (List.mem_append_right _ h)
theorem lkX7_doubtedBy_126 : Cond.fieldLink RX7 126 "PostlintModel" (TX7 3).2.1 (TX7 3).2.2.1 ∈ wsX7_doubtedBy := by decide +kernel
def fX7_doubtedBy_L4 (n : Nat) : Nat → MW → Int32 → Int32 → Int32 → Option (Int32)
  | 0, _, _, _, _ => none
  | k + 1, w, v1, v2, v3 => (if (w.1 3) ≤ v3 then some (v2) else bP (fX7_isDoubted n w v3 v1) (fun r16 => (if r16 = 0 then bnd ((v2 + (0 : Int32))) (fun y28 => fX7_doubtedBy_L4 n k w v1 y28 ((v3 + (1 : Int32)))) else bnd ((v2 + (1 : Int32))) (fun y28 => fX7_doubtedBy_L4 n k w v1 y28 ((v3 + (1 : Int32)))))))
def fX7_doubtedBy (n : Nat) (w : MW) (v1 : Int32) : Option Int32 := bL1 (fX7_doubtedBy_L4 n n w v1 (0 : Int32) (0 : Int32)) (fun x2_4 => some x2_4)
set_option maxRecDepth 100000 in
set_option maxHeartbeats 4000000 in
theorem sX7_doubtedBy_L4 {X : JX} {a : Nat} {ad : Nat → Nat} {cI cZ cO cJ : ClassId} {n : Nat} {w : MW} {post : Option Value → va_W → Prop} (hX : jOK X cX7_doubtedBy 4 wsX7_doubtedBy RX7 rmX7_doubtedBy) (hT : jT X = jTy cI cZ cO cJ) (hGX : jG X jG0) (hret : jRI X cX7_doubtedBy rmX7_doubtedBy post) {o : (Int32)} (hex : ∀ (x2 : Int32), o = x2 → JW X 0 0 (mW a ad cI cZ w) 35 [(2, .int x2)] [])  : ∀ (k : Nat) (v1 v2 v3 : Int32), fX7_doubtedBy_L4 n k w v1 v2 v3 = some o → JW X 0 0 (mW a ad cI cZ w) 4 [(0, .ref a), (1, .int v1), (2, .int v2), (3, .int v3)] [] := by
  intro k
  induction k with
  | zero => intro v1 v2 v3 h; cases h
  | succ k hrec0 =>
    intro v1 v2 v3 h
    have hrec := fun (_ : MW) => hrec0
    unfold fX7_doubtedBy_L4 at h
    refine jw_iload_n hX dX7_doubtedBy_4 rfl 3 rfl ?_
    refine jw_aload_n hX dX7_doubtedBy_5 rfl 0 rfl ?_
    refine jw_mgetI hX hT inX7_doubtedBy 3 (by decide) lkX7_doubtedBy_126 rfl dX7_doubtedBy_6 ?_
    refine jw_icmp_ge (tgt := 35) hX dX7_doubtedBy_9 (by decide) (fun hc => ?_) (fun hc => ?_)
    · rw [if_pos hc] at h
      refine jw_sub [2] [(2, .int v2)] rfl ?_
      exact hex _ (Option.some.inj h).symm
    · rw [if_neg hc] at h
      refine jw_iload_n hX dX7_doubtedBy_12 rfl 2 rfl ?_
      refine jw_aload_n hX dX7_doubtedBy_13 rfl 0 rfl ?_
      refine jw_iload_n hX dX7_doubtedBy_14 rfl 3 rfl ?_
      refine jw_iload_n hX dX7_doubtedBy_15 rfl 1 rfl ?_
      obtain ⟨r16, hc16, h⟩ := bP_some h
      refine jw_cVi (As := [.int v3, .int v1]) hX jG0_ok hGX 2 (kX7_isDoubted hT hc16) gX7_doubtedBy_X7_isDoubted rfl hdX7_isDoubted ⟨by decide, by decide⟩ 0 7 rfl rfl rfl (Nat.le_of_ble_eq_true rfl) dX7_doubtedBy_16 rfl rfl ⟨by decide, by decide⟩ ?_
      refine jw_if_eq (tgt := 26) hX dX7_doubtedBy_19 (by decide) (fun hc => ?_) (fun hc => ?_)
      · rw [if_pos hc] at h
        refine jw_iconst (v := (0 : Int32)) hX dX7_doubtedBy_26 (by decide) ?_
        refine jw_iadd hX dX7_doubtedBy_27 ?_
        refine jw_topi (fun y28 e28 => ?_)
        replace h := bnd_some h y28 e28
        clear e28
        refine jw_istore_n hX [(2, .int y28), (0, .ref a), (1, .int v1), (3, .int v3)] dX7_doubtedBy_28 rfl (by decide) rfl ?_
        refine jw_iinc (v := (v3 + (1 : Int32))) hX [(3, .int (v3 + (1 : Int32))), (2, .int y28), (0, .ref a), (1, .int v1)] dX7_doubtedBy_29 3 rfl (by first | rfl | (congr 1; decide)) (by decide) rfl ?_
        refine jw_goto (tgt := 4) hX dX7_doubtedBy_32 (by decide) ?_
        refine jw_sub [2, 3, 1, 0] [(0, .ref a), (1, .int v1), (2, .int y28), (3, .int (v3 + (1 : Int32)))] rfl ?_
        exact hrec w _ _ _ h
      · rw [if_neg hc] at h
        refine jw_iconst (v := (1 : Int32)) hX dX7_doubtedBy_22 (by decide) ?_
        refine jw_goto (tgt := 27) hX dX7_doubtedBy_23 (by decide) ?_
        refine jw_iadd hX dX7_doubtedBy_27 ?_
        refine jw_topi (fun y28 e28 => ?_)
        replace h := bnd_some h y28 e28
        clear e28
        refine jw_istore_n hX [(2, .int y28), (0, .ref a), (1, .int v1), (3, .int v3)] dX7_doubtedBy_28 rfl (by decide) rfl ?_
        refine jw_iinc (v := (v3 + (1 : Int32))) hX [(3, .int (v3 + (1 : Int32))), (2, .int y28), (0, .ref a), (1, .int v1)] dX7_doubtedBy_29 3 rfl (by first | rfl | (congr 1; decide)) (by decide) rfl ?_
        refine jw_goto (tgt := 4) hX dX7_doubtedBy_32 (by decide) ?_
        refine jw_sub [2, 3, 1, 0] [(0, .ref a), (1, .int v1), (2, .int y28), (3, .int (v3 + (1 : Int32)))] rfl ?_
        exact hrec w _ _ _ h
set_option maxRecDepth 100000 in
set_option maxHeartbeats 4000000 in
theorem sX7_doubtedBy {X : JX} {a : Nat} {ad : Nat → Nat} {cI cZ cO cJ : ClassId} {n : Nat} {w : MW} {post : Option Value → va_W → Prop} (hX : jOK X cX7_doubtedBy 4 wsX7_doubtedBy RX7 rmX7_doubtedBy) (hT : jT X = jTy cI cZ cO cJ) (hGX : jG X jG0) (hret : jRI X cX7_doubtedBy rmX7_doubtedBy post) {o : Int32} (hro : ∀ v9 : Int32, o = v9 → post (some (.int v9)) (mW a ad cI cZ w)) {v1 : Int32} (h : fX7_doubtedBy n w v1 = some o) : JW X 0 0 (mW a ad cI cZ w) 0 [(0, .ref a), (1, .int v1)] [] := by
  unfold fX7_doubtedBy at h
  refine jw_iconst (v := (0 : Int32)) hX dX7_doubtedBy_0 (by decide) ?_
  refine jw_istore_n hX [(2, .int (0 : Int32)), (0, .ref a), (1, .int v1)] dX7_doubtedBy_1 rfl (by decide) rfl ?_
  refine jw_iconst (v := (0 : Int32)) hX dX7_doubtedBy_2 (by decide) ?_
  refine jw_istore_n hX [(3, .int (0 : Int32)), (2, .int (0 : Int32)), (0, .ref a), (1, .int v1)] dX7_doubtedBy_3 rfl (by decide) rfl ?_
  refine jw_sub [2, 3, 1, 0] [(0, .ref a), (1, .int v1), (2, .int (0 : Int32)), (3, .int (0 : Int32))] rfl ?_
  obtain ⟨x2_4, hl4, h⟩ := bL1_some h
  refine sX7_doubtedBy_L4 hX hT hGX hret (o := x2_4) (fun q0 e9 => ?_) n _ _ _ hl4
  cases e9
  refine jw_iload_n hX dX7_doubtedBy_35 rfl 0 rfl ?_
  exact hret _ _ _ _ _ _ (Nat.zero_le _) (Nat.zero_le _) dX7_doubtedBy_36 (hro _ (Option.some.inj h).symm)
set_option maxRecDepth 100000 in
set_option maxHeartbeats 4000000 in
theorem kX7_doubtedBy {l : Launch} {D : va_G} {tys : List (ClassId × FieldType)} {a : Nat} {ad : Nat → Nat} {cI cZ cO cJ : ClassId} {n : Nat} {w : MW} {v1 : Int32} {r : Int32} (hT : tys = jTy cI cZ cO cJ) (h : fX7_doubtedBy n w v1 = some r) : CC l jG0 D tys yX7_doubtedBy wsX7_doubtedBy rmX7_doubtedBy [.ref a, .int v1] (mW a ad cI cZ w) (fun ov w2 => ov = some (.int r) ∧ w2 = (mW a ad cI cZ w)) := by
  refine CC_of (cc := cX7_doubtedBy) (maxL := 4) (ret := (some .int)) (by decide) rfl (Nat.le_of_ble_eq_true rfl) ?_
  intro X hD hL hT0 hGX hX rI rZ rV rA
  exact sX7_doubtedBy (post := fun ov w2 => ov = some (.int r) ∧ w2 = (mW a ad cI cZ w)) hX (hT0.trans hT) hGX (fun cells slots w9 pc lv v => rI cells slots w9 pc lv v rfl) (o := r) (fun v9 e9 => by cases e9; exact ⟨rfl, rfl⟩) h
/-! X7_takeBack -/
abbrev rmX7_takeBack : Room := { frames := 5, cells := 0, slots := 0, locals := 116 }
theorem hdX7_takeBack : yX7_takeBack.cls = RX7 ∧ yX7_takeBack.cls ≠ "java/lang/invoke/MethodHandle" ∧ yX7_takeBack.cls ≠ "java/lang/invoke/VarHandle" ∧ (parseMethodDescriptor yX7_takeBack.desc).map (fun d => d.parameters.length) = some 1 := by decide +kernel
theorem inX7_takeBack : ∀ w ∈ wsX70, w ∈ wsX7_takeBack := fun _ h => List.mem_cons_of_mem _ (List.mem_append_right _ h)
theorem lkX7_takeBack_59 : Cond.fieldLink RX7 59 "PostlintModel" (TX7 20).2.1 (TX7 20).2.2.1 ∈ wsX7_takeBack := by decide +kernel
def fX7_takeBack_J29 (n : Nat) (w : MW) (v1 t0 : Int32) : Option (Int32 × MW) := b2 (fX7_isOf w t0) (fun r29 w29 => (if r29 = 0 then some ((0 : Int32), w29) else bP (fX7_doubtedBy n w29 v1) (fun r39 => chk (inB v1 (mLen 20)) (chk (b01 (1 : Int32)) (bnd (mA w29 20 (v1).toNatClampNeg (1 : Int32)) (fun w49 => some (r39, w49)))))))
def fX7_takeBack (n : Nat) (w : MW) (v1 : Int32) : Option (Int32 × MW) := bP (fX7_isRule w v1) (fun r2 => (if r2 = 0 then fX7_takeBack_J29 n w v1 (1 : Int32) else chk (inB v1 (mLen 20)) ((if (w.2 20 (v1).toNatClampNeg) = 0 then fX7_takeBack_J29 n w v1 (0 : Int32) else fX7_takeBack_J29 n w v1 (2 : Int32)))))
set_option maxRecDepth 100000 in
set_option maxHeartbeats 4000000 in
theorem sX7_takeBack_J29 {X : JX} {a : Nat} {ad : Nat → Nat} {cI cZ cO cJ : ClassId} {n : Nat} {post : Option Value → va_W → Prop} (hX : jOK X cX7_takeBack 4 wsX7_takeBack RX7 rmX7_takeBack) (hT : jT X = jTy cI cZ cO cJ) (hGX : jG X jG0) (hret : jRI X cX7_takeBack rmX7_takeBack post) {o : (Int32 × MW)}   (hro : ∀ (v9 : Int32) (w9 : MW), o = (v9, w9) → post (some (.int v9)) (mW a ad cI cZ w9)) {w : MW} {v1 t0 : Int32} (h : fX7_takeBack_J29 n w v1 t0 = some o) : JW X 0 0 (mW a ad cI cZ w) 29 [(0, .ref a), (1, .int v1)] [.int t0, .ref a] := by
  unfold fX7_takeBack_J29 at h
  obtain ⟨r29, w29, hc29, h⟩ := b2_some h
  refine jw_cVi (As := [.int t0]) hX jG0_ok hGX 1 (kX7_isOf hT hc29) gX7_takeBack_X7_isOf rfl hdX7_isOf ⟨by decide, by decide⟩ 0 7 rfl rfl rfl (Nat.le_of_ble_eq_true rfl) dX7_takeBack_29 rfl rfl ⟨by decide, by decide⟩ ?_
  refine jw_if_ne (tgt := 37) hX dX7_takeBack_32 (by decide) (fun hc => ?_) (fun hc => ?_)
  · rw [if_neg hc] at h
    refine jw_aload_n hX dX7_takeBack_37 rfl 0 rfl ?_
    refine jw_iload_n hX dX7_takeBack_38 rfl 1 rfl ?_
    obtain ⟨r39, hc39, h⟩ := bP_some h
    refine jw_cVi (As := [.int v1]) hX jG0_ok hGX 1 (kX7_doubtedBy hT hc39) gX7_takeBack_X7_doubtedBy rfl hdX7_doubtedBy ⟨by decide, by decide⟩ 0 7 rfl rfl rfl (Nat.le_of_ble_eq_true rfl) dX7_takeBack_39 rfl rfl ⟨by decide, by decide⟩ ?_
    refine jw_istore_n hX [(3, .int r39), (0, .ref a), (1, .int v1)] dX7_takeBack_42 rfl (by decide) rfl ?_
    refine jw_aload_n hX dX7_takeBack_43 rfl 1 rfl ?_
    refine jw_mgetA hX hT inX7_takeBack 20 (by decide) lkX7_takeBack_59 rfl dX7_takeBack_44 ?_
    refine jw_iload_n hX dX7_takeBack_47 rfl 2 rfl ?_
    refine jw_iconst (v := (1 : Int32)) hX dX7_takeBack_48 (by decide) ?_
    obtain ⟨hb49, h⟩ := chk_some h
    obtain ⟨hz49, h⟩ := chk_some h
    refine jw_mzast hX hT 16 20 rfl rfl hb49 hz49 dX7_takeBack_49 (fun w49 e49 => ?_)
    replace h := bnd_some h w49 e49
    clear e49
    refine jw_iload_n hX dX7_takeBack_50 rfl 0 rfl ?_
    exact hret _ _ _ _ _ _ (Nat.zero_le _) (Nat.zero_le _) dX7_takeBack_51 (hro _ _ (Option.some.inj h).symm)
  · rw [if_pos hc] at h
    refine jw_iconst (v := (0 : Int32)) hX dX7_takeBack_35 (by decide) ?_
    exact hret _ _ _ _ _ _ (Nat.zero_le _) (Nat.zero_le _) dX7_takeBack_36 (hro _ _ (Option.some.inj h).symm)
set_option maxRecDepth 100000 in
set_option maxHeartbeats 4000000 in
theorem sX7_takeBack {X : JX} {a : Nat} {ad : Nat → Nat} {cI cZ cO cJ : ClassId} {n : Nat} {post : Option Value → va_W → Prop} (hX : jOK X cX7_takeBack 4 wsX7_takeBack RX7 rmX7_takeBack) (hT : jT X = jTy cI cZ cO cJ) (hGX : jG X jG0) (hret : jRI X cX7_takeBack rmX7_takeBack post) {o : (Int32 × MW)} (hro : ∀ (v9 : Int32) (w9 : MW), o = (v9, w9) → post (some (.int v9)) (mW a ad cI cZ w9)) {w : MW} {v1 : Int32} (h : fX7_takeBack n w v1 = some o) : JW X 0 0 (mW a ad cI cZ w) 0 [(0, .ref a), (1, .int v1)] [] := by
  unfold fX7_takeBack at h
  refine jw_aload_n hX dX7_takeBack_0 rfl 0 rfl ?_
  refine jw_iload_n hX dX7_takeBack_1 rfl 1 rfl ?_
  obtain ⟨r2, hc2, h⟩ := bP_some h
  refine jw_cVi (As := [.int v1]) hX jG0_ok hGX 1 (kX7_isRule hT hc2) gX7_takeBack_X7_isRule rfl hdX7_isRule ⟨by decide, by decide⟩ 0 7 rfl rfl rfl (Nat.le_of_ble_eq_true rfl) dX7_takeBack_2 rfl rfl ⟨by decide, by decide⟩ ?_
  refine jw_istore_n hX [(2, .int r2), (0, .ref a), (1, .int v1)] dX7_takeBack_5 rfl (by decide) rfl ?_
  refine jw_aload_n hX dX7_takeBack_6 rfl 1 rfl ?_
  refine jw_iload_n hX dX7_takeBack_7 rfl 0 rfl ?_
  refine jw_if_ne (tgt := 15) hX dX7_takeBack_8 (by decide) (fun hc => ?_) (fun hc => ?_)
  · rw [if_neg hc] at h
    refine jw_aload_n hX dX7_takeBack_15 rfl 1 rfl ?_
    refine jw_mgetA hX hT inX7_takeBack 20 (by decide) lkX7_takeBack_59 rfl dX7_takeBack_16 ?_
    refine jw_iload_n hX dX7_takeBack_19 rfl 2 rfl ?_
    obtain ⟨hb20, h⟩ := chk_some h
    refine jw_mzald hX hT 16 20 rfl rfl hb20 dX7_takeBack_20 ?_
    refine jw_if_eq (tgt := 28) hX dX7_takeBack_21 (by decide) (fun hc => ?_) (fun hc => ?_)
    · rw [if_pos hc] at h
      refine jw_iconst (v := (0 : Int32)) hX dX7_takeBack_28 (by decide) ?_
      refine jw_sub [1, 2] [(0, .ref a), (1, .int v1)] rfl ?_
      exact sX7_takeBack_J29 hX hT hGX hret hro h
    · rw [if_neg hc] at h
      refine jw_iconst (v := (2 : Int32)) hX dX7_takeBack_24 (by decide) ?_
      refine jw_goto (tgt := 29) hX dX7_takeBack_25 (by decide) ?_
      refine jw_sub [1, 2] [(0, .ref a), (1, .int v1)] rfl ?_
      exact sX7_takeBack_J29 hX hT hGX hret hro h
  · rw [if_pos hc] at h
    refine jw_iconst (v := (1 : Int32)) hX dX7_takeBack_11 (by decide) ?_
    refine jw_goto (tgt := 29) hX dX7_takeBack_12 (by decide) ?_
    refine jw_sub [1, 2] [(0, .ref a), (1, .int v1)] rfl ?_
    exact sX7_takeBack_J29 hX hT hGX hret hro h
set_option maxRecDepth 100000 in
set_option maxHeartbeats 4000000 in
theorem kX7_takeBack {l : Launch} {D : va_G} {tys : List (ClassId × FieldType)} {a : Nat} {ad : Nat → Nat} {cI cZ cO cJ : ClassId} {n : Nat} {w : MW} {v1 : Int32} {r : Int32} {w1 : MW} (hT : tys = jTy cI cZ cO cJ) (h : fX7_takeBack n w v1 = some (r, w1)) : CC l jG0 D tys yX7_takeBack wsX7_takeBack rmX7_takeBack [.ref a, .int v1] (mW a ad cI cZ w) (fun ov w2 => ov = some (.int r) ∧ w2 = (mW a ad cI cZ w1)) := by
  refine CC_of (cc := cX7_takeBack) (maxL := 4) (ret := (some .int)) (by decide) rfl (Nat.le_of_ble_eq_true rfl) ?_
  intro X hD hL hT0 hGX hX rI rZ rV rA
  exact sX7_takeBack (post := fun ov w2 => ov = some (.int r) ∧ w2 = (mW a ad cI cZ w1)) hX (hT0.trans hT) hGX (fun cells slots w9 pc lv v => rI cells slots w9 pc lv v rfl) (o := (r, w1)) (fun v9 w9 e9 => by cases e9; exact ⟨rfl, rfl⟩) h
/-! X7_audit -/
abbrev rmX7_audit : Room := { frames := 2, cells := 0, slots := 0, locals := 43 }
theorem hdX7_audit : yX7_audit.cls = RX7 ∧ yX7_audit.cls ≠ "java/lang/invoke/MethodHandle" ∧ yX7_audit.cls ≠ "java/lang/invoke/VarHandle" ∧ (parseMethodDescriptor yX7_audit.desc).map (fun d => d.parameters.length) = some 2 := by decide +kernel
theorem inX7_audit : ∀ w ∈ wsX70, w ∈ wsX7_audit := fun _ h => List.mem_cons_of_mem _ (List.mem_append_right _ h)
theorem lkX7_audit_203 : Cond.fieldLink RX7 203 "PostlintModel" (TX7 21).2.1 (TX7 21).2.2.1 ∈ wsX7_audit := by decide +kernel
theorem lkX7_audit_44 : Cond.fieldLink RX7 44 "PostlintModel" (TX7 14).2.1 (TX7 14).2.2.1 ∈ wsX7_audit := by decide +kernel
theorem lkX7_audit_62 : Cond.fieldLink RX7 62 "PostlintModel" (TX7 22).2.1 (TX7 22).2.2.1 ∈ wsX7_audit := by decide +kernel
theorem lkX7_audit_65 : Cond.fieldLink RX7 65 "PostlintModel" (TX7 23).2.1 (TX7 23).2.2.1 ∈ wsX7_audit := by decide +kernel
theorem lkX7_audit_68 : Cond.fieldLink RX7 68 "PostlintModel" (TX7 24).2.1 (TX7 24).2.2.1 ∈ wsX7_audit := by decide +kernel
theorem lkX7_audit_71 : Cond.fieldLink RX7 71 "PostlintModel" (TX7 25).2.1 (TX7 25).2.2.1 ∈ wsX7_audit := by decide +kernel
def fX7_audit_J44 (w : MW) (v1 v2 t0 : Int32) : Option (Int32 × MW) := b2 (fX7_isOf w t0) (fun r44 w44 => (if r44 = 0 then some ((0 : Int32), w44) else chk (inB (w44.1 21) (mLen 22)) (bnd (mA w44 22 ((w44.1 21)).toNatClampNeg v1) (fun w61 => chk (inB (w61.1 21) (mLen 23)) (bnd (mA w61 23 ((w61.1 21)).toNatClampNeg v2) (fun w71 => chk (inB v2 (mLen 14)) (chk (inB (w71.1 21) (mLen 24)) (bnd (mA w71 24 ((w71.1 21)).toNatClampNeg (w71.2 14 (v2).toNatClampNeg)) (fun w86 => chk (inB (w86.1 21) (mLen 25)) (chk (b01 (0 : Int32)) (bnd (mA w86 25 ((w86.1 21)).toNatClampNeg (0 : Int32)) (fun w96 => bnd (mS w96 21 ((w96.1 21) + (1 : Int32))) (fun w104 => some (((w104.1 21) - (1 : Int32)), w104))))))))))))))
def fX7_audit_J17 (w : MW) (v1 v2 : Int32) : Option (Int32 × MW) := fX7_audit_J44 w v1 v2 (1 : Int32)
def fX7_audit (w : MW) (v1 v2 : Int32) : Option (Int32 × MW) := bP (fX7_isEntry w v1) (fun r3 => (if r3 = 0 then fX7_audit_J17 w v1 v2 else bP (fX7_isEntry w v2) (fun r11 => (if r11 = 0 then fX7_audit_J17 w v1 v2 else (if v1 ≤ v2 then (if (w.1 21) = (6 : Int32) then fX7_audit_J44 w v1 v2 (3 : Int32) else fX7_audit_J44 w v1 v2 (0 : Int32)) else fX7_audit_J44 w v1 v2 (2 : Int32))))))
set_option maxRecDepth 100000 in
set_option maxHeartbeats 4000000 in
theorem sX7_audit_J44 {X : JX} {a : Nat} {ad : Nat → Nat} {cI cZ cO cJ : ClassId} {post : Option Value → va_W → Prop} (hX : jOK X cX7_audit 3 wsX7_audit RX7 rmX7_audit) (hT : jT X = jTy cI cZ cO cJ) (hGX : jG X jG0) (hret : jRI X cX7_audit rmX7_audit post) {o : (Int32 × MW)}   (hro : ∀ (v9 : Int32) (w9 : MW), o = (v9, w9) → post (some (.int v9)) (mW a ad cI cZ w9)) {w : MW} {v1 v2 t0 : Int32} (h : fX7_audit_J44 w v1 v2 t0 = some o) : JW X 0 0 (mW a ad cI cZ w) 44 [(0, .ref a), (1, .int v1), (2, .int v2)] [.int t0, .ref a] := by
  unfold fX7_audit_J44 at h
  obtain ⟨r44, w44, hc44, h⟩ := b2_some h
  refine jw_cVi (As := [.int t0]) hX jG0_ok hGX 1 (kX7_isOf hT hc44) gX7_audit_X7_isOf rfl hdX7_isOf ⟨by decide, by decide⟩ 0 7 rfl rfl rfl (Nat.le_of_ble_eq_true rfl) dX7_audit_44 rfl rfl ⟨by decide, by decide⟩ ?_
  refine jw_if_ne (tgt := 52) hX dX7_audit_47 (by decide) (fun hc => ?_) (fun hc => ?_)
  · rw [if_neg hc] at h
    refine jw_aload_n hX dX7_audit_52 rfl 0 rfl ?_
    refine jw_mgetA hX hT inX7_audit 22 (by decide) lkX7_audit_62 rfl dX7_audit_53 ?_
    refine jw_aload_n hX dX7_audit_56 rfl 0 rfl ?_
    refine jw_mgetI hX hT inX7_audit 21 (by decide) lkX7_audit_203 rfl dX7_audit_57 ?_
    refine jw_iload_n hX dX7_audit_60 rfl 1 rfl ?_
    obtain ⟨hb61, h⟩ := chk_some h
    refine jw_miast hX hT 17 22 rfl rfl hb61 dX7_audit_61 (fun w61 e61 => ?_)
    replace h := bnd_some h w61 e61
    clear e61
    refine jw_aload_n hX dX7_audit_62 rfl 0 rfl ?_
    refine jw_mgetA hX hT inX7_audit 23 (by decide) lkX7_audit_65 rfl dX7_audit_63 ?_
    refine jw_aload_n hX dX7_audit_66 rfl 0 rfl ?_
    refine jw_mgetI hX hT inX7_audit 21 (by decide) lkX7_audit_203 rfl dX7_audit_67 ?_
    refine jw_iload_n hX dX7_audit_70 rfl 2 rfl ?_
    obtain ⟨hb71, h⟩ := chk_some h
    refine jw_miast hX hT 18 23 rfl rfl hb71 dX7_audit_71 (fun w71 e71 => ?_)
    replace h := bnd_some h w71 e71
    clear e71
    refine jw_aload_n hX dX7_audit_72 rfl 0 rfl ?_
    refine jw_mgetA hX hT inX7_audit 24 (by decide) lkX7_audit_68 rfl dX7_audit_73 ?_
    refine jw_aload_n hX dX7_audit_76 rfl 0 rfl ?_
    refine jw_mgetI hX hT inX7_audit 21 (by decide) lkX7_audit_203 rfl dX7_audit_77 ?_
    refine jw_aload_n hX dX7_audit_80 rfl 0 rfl ?_
    refine jw_mgetA hX hT inX7_audit 14 (by decide) lkX7_audit_44 rfl dX7_audit_81 ?_
    refine jw_iload_n hX dX7_audit_84 rfl 2 rfl ?_
    obtain ⟨hb85, h⟩ := chk_some h
    refine jw_miald hX hT 11 14 rfl rfl hb85 dX7_audit_85 ?_
    obtain ⟨hb86, h⟩ := chk_some h
    refine jw_miast hX hT 19 24 rfl rfl hb86 dX7_audit_86 (fun w86 e86 => ?_)
    replace h := bnd_some h w86 e86
    clear e86
    refine jw_aload_n hX dX7_audit_87 rfl 0 rfl ?_
    refine jw_mgetA hX hT inX7_audit 25 (by decide) lkX7_audit_71 rfl dX7_audit_88 ?_
    refine jw_aload_n hX dX7_audit_91 rfl 0 rfl ?_
    refine jw_mgetI hX hT inX7_audit 21 (by decide) lkX7_audit_203 rfl dX7_audit_92 ?_
    refine jw_iconst (v := (0 : Int32)) hX dX7_audit_95 (by decide) ?_
    obtain ⟨hb96, h⟩ := chk_some h
    obtain ⟨hz96, h⟩ := chk_some h
    refine jw_mzast hX hT 20 25 rfl rfl hb96 hz96 dX7_audit_96 (fun w96 e96 => ?_)
    replace h := bnd_some h w96 e96
    clear e96
    refine jw_aload_n hX dX7_audit_97 rfl 0 rfl ?_
    refine jw_dup hX dX7_audit_98 rfl ?_
    refine jw_mgetI hX hT inX7_audit 21 (by decide) lkX7_audit_203 rfl dX7_audit_99 ?_
    refine jw_iconst (v := (1 : Int32)) hX dX7_audit_102 (by decide) ?_
    refine jw_iadd hX dX7_audit_103 ?_
    refine jw_mputI hX hT inX7_audit 21 (by decide) lkX7_audit_203 rfl dX7_audit_104 (fun w104 e104 => ?_)
    replace h := bnd_some h w104 e104
    clear e104
    refine jw_aload_n hX dX7_audit_107 rfl 0 rfl ?_
    refine jw_mgetI hX hT inX7_audit 21 (by decide) lkX7_audit_203 rfl dX7_audit_108 ?_
    refine jw_iconst (v := (1 : Int32)) hX dX7_audit_111 (by decide) ?_
    refine jw_isub hX dX7_audit_112 ?_
    exact hret _ _ _ _ _ _ (Nat.zero_le _) (Nat.zero_le _) dX7_audit_113 (hro _ _ (Option.some.inj h).symm)
  · rw [if_pos hc] at h
    refine jw_iconst (v := (0 : Int32)) hX dX7_audit_50 (by decide) ?_
    exact hret _ _ _ _ _ _ (Nat.zero_le _) (Nat.zero_le _) dX7_audit_51 (hro _ _ (Option.some.inj h).symm)
set_option maxRecDepth 100000 in
set_option maxHeartbeats 4000000 in
theorem sX7_audit_J17 {X : JX} {a : Nat} {ad : Nat → Nat} {cI cZ cO cJ : ClassId} {post : Option Value → va_W → Prop} (hX : jOK X cX7_audit 3 wsX7_audit RX7 rmX7_audit) (hT : jT X = jTy cI cZ cO cJ) (hGX : jG X jG0) (hret : jRI X cX7_audit rmX7_audit post) {o : (Int32 × MW)}   (hro : ∀ (v9 : Int32) (w9 : MW), o = (v9, w9) → post (some (.int v9)) (mW a ad cI cZ w9)) {w : MW} {v1 v2 : Int32} (h : fX7_audit_J17 w v1 v2 = some o) : JW X 0 0 (mW a ad cI cZ w) 17 [(0, .ref a), (1, .int v1), (2, .int v2)] [.ref a] := by
  unfold fX7_audit_J17 at h
  refine jw_iconst (v := (1 : Int32)) hX dX7_audit_17 (by decide) ?_
  refine jw_goto (tgt := 44) hX dX7_audit_18 (by decide) ?_
  exact sX7_audit_J44 hX hT hGX hret hro h
set_option maxRecDepth 100000 in
set_option maxHeartbeats 4000000 in
theorem sX7_audit {X : JX} {a : Nat} {ad : Nat → Nat} {cI cZ cO cJ : ClassId} {post : Option Value → va_W → Prop} (hX : jOK X cX7_audit 3 wsX7_audit RX7 rmX7_audit) (hT : jT X = jTy cI cZ cO cJ) (hGX : jG X jG0) (hret : jRI X cX7_audit rmX7_audit post) {o : (Int32 × MW)} (hro : ∀ (v9 : Int32) (w9 : MW), o = (v9, w9) → post (some (.int v9)) (mW a ad cI cZ w9)) {w : MW} {v1 v2 : Int32} (h : fX7_audit w v1 v2 = some o) : JW X 0 0 (mW a ad cI cZ w) 0 [(0, .ref a), (1, .int v1), (2, .int v2)] [] := by
  unfold fX7_audit at h
  refine jw_aload_n hX dX7_audit_0 rfl 0 rfl ?_
  refine jw_aload_n hX dX7_audit_1 rfl 0 rfl ?_
  refine jw_iload_n hX dX7_audit_2 rfl 1 rfl ?_
  obtain ⟨r3, hc3, h⟩ := bP_some h
  refine jw_cVi (As := [.int v1]) hX jG0_ok hGX 1 (kX7_isEntry hT hc3) gX7_audit_X7_isEntry rfl hdX7_isEntry ⟨by decide, by decide⟩ 0 7 rfl rfl rfl (Nat.le_of_ble_eq_true rfl) dX7_audit_3 rfl rfl ⟨by decide, by decide⟩ ?_
  refine jw_if_eq (tgt := 17) hX dX7_audit_6 (by decide) (fun hc => ?_) (fun hc => ?_)
  · rw [if_pos hc] at h
    exact sX7_audit_J17 hX hT hGX hret hro h
  · rw [if_neg hc] at h
    refine jw_aload_n hX dX7_audit_9 rfl 0 rfl ?_
    refine jw_iload_n hX dX7_audit_10 rfl 2 rfl ?_
    obtain ⟨r11, hc11, h⟩ := bP_some h
    refine jw_cVi (As := [.int v2]) hX jG0_ok hGX 1 (kX7_isEntry hT hc11) gX7_audit_X7_isEntry rfl hdX7_isEntry ⟨by decide, by decide⟩ 0 7 rfl rfl rfl (Nat.le_of_ble_eq_true rfl) dX7_audit_11 rfl rfl ⟨by decide, by decide⟩ ?_
    refine jw_if_ne (tgt := 21) hX dX7_audit_14 (by decide) (fun hc => ?_) (fun hc => ?_)
    · rw [if_neg hc] at h
      refine jw_iload_n hX dX7_audit_21 rfl 2 rfl ?_
      refine jw_iload_n hX dX7_audit_22 rfl 1 rfl ?_
      refine jw_icmp_ge (tgt := 30) hX dX7_audit_23 (by decide) (fun hc => ?_) (fun hc => ?_)
      · rw [if_pos hc] at h
        refine jw_aload_n hX dX7_audit_30 rfl 0 rfl ?_
        refine jw_mgetI hX hT inX7_audit 21 (by decide) lkX7_audit_203 rfl dX7_audit_31 ?_
        refine jw_bipush (v := (6 : Int32)) hX dX7_audit_34 (by decide) ?_
        refine jw_icmp_ne (tgt := 43) hX dX7_audit_36 (by decide) (fun hc => ?_) (fun hc => ?_)
        · rw [if_neg hc] at h
          refine jw_iconst (v := (0 : Int32)) hX dX7_audit_43 (by decide) ?_
          exact sX7_audit_J44 hX hT hGX hret hro h
        · rw [if_pos hc] at h
          refine jw_iconst (v := (3 : Int32)) hX dX7_audit_39 (by decide) ?_
          refine jw_goto (tgt := 44) hX dX7_audit_40 (by decide) ?_
          exact sX7_audit_J44 hX hT hGX hret hro h
      · rw [if_neg hc] at h
        refine jw_iconst (v := (2 : Int32)) hX dX7_audit_26 (by decide) ?_
        refine jw_goto (tgt := 44) hX dX7_audit_27 (by decide) ?_
        exact sX7_audit_J44 hX hT hGX hret hro h
    · rw [if_pos hc] at h
      exact sX7_audit_J17 hX hT hGX hret hro h
set_option maxRecDepth 100000 in
set_option maxHeartbeats 4000000 in
theorem kX7_audit {l : Launch} {D : va_G} {tys : List (ClassId × FieldType)} {a : Nat} {ad : Nat → Nat} {cI cZ cO cJ : ClassId} {w : MW} {v1 v2 : Int32} {r : Int32} {w1 : MW} (hT : tys = jTy cI cZ cO cJ) (h : fX7_audit w v1 v2 = some (r, w1)) : CC l jG0 D tys yX7_audit wsX7_audit rmX7_audit [.ref a, .int v1, .int v2] (mW a ad cI cZ w) (fun ov w2 => ov = some (.int r) ∧ w2 = (mW a ad cI cZ w1)) := by
  refine CC_of (cc := cX7_audit) (maxL := 3) (ret := (some .int)) (by decide) rfl (Nat.le_of_ble_eq_true rfl) ?_
  intro X hD hL hT0 hGX hX rI rZ rV rA
  exact sX7_audit (post := fun ov w2 => ov = some (.int r) ∧ w2 = (mW a ad cI cZ w1)) hX (hT0.trans hT) hGX (fun cells slots w9 pc lv v => rI cells slots w9 pc lv v rfl) (o := (r, w1)) (fun v9 w9 e9 => by cases e9; exact ⟨rfl, rfl⟩) h
/-! X7_isAudit -/
abbrev rmX7_isAudit : Room := { frames := 1, cells := 0, slots := 0, locals := 22 }
theorem hdX7_isAudit : yX7_isAudit.cls = RX7 ∧ yX7_isAudit.cls ≠ "java/lang/invoke/MethodHandle" ∧ yX7_isAudit.cls ≠ "java/lang/invoke/VarHandle" ∧ (parseMethodDescriptor yX7_isAudit.desc).map (fun d => d.parameters.length) = some 1 := by decide +kernel
theorem inX7_isAudit : ∀ w ∈ wsX70, w ∈ wsX7_isAudit := fun _ h => List.mem_cons_of_mem _ (List.mem_append_right _ h)
theorem lkX7_isAudit_203 : Cond.fieldLink RX7 203 "PostlintModel" (TX7 21).2.1 (TX7 21).2.2.1 ∈ wsX7_isAudit := by decide +kernel
def fX7_isAudit (w : MW) (v1 : Int32) : Option Int32 := bP (fX7_isIn v1 (0 : Int32) ((w.1 21) - (1 : Int32))) (fun r8 => chk (b01 r8) (some r8))
set_option maxRecDepth 100000 in
set_option maxHeartbeats 4000000 in
theorem sX7_isAudit {X : JX} {a : Nat} {ad : Nat → Nat} {cI cZ cO cJ : ClassId} {w : MW} {post : Option Value → va_W → Prop} (hX : jOK X cX7_isAudit 2 wsX7_isAudit RX7 rmX7_isAudit) (hT : jT X = jTy cI cZ cO cJ) (hGX : jG X jG0) (hret : jRZ X cX7_isAudit rmX7_isAudit post) {o : Int32} (hro : ∀ v9 : Int32, o = v9 → post (some (.int v9)) (mW a ad cI cZ w)) {v1 : Int32} (h : fX7_isAudit w v1 = some o) : JW X 0 0 (mW a ad cI cZ w) 0 [(0, .ref a), (1, .int v1)] [] := by
  unfold fX7_isAudit at h
  refine jw_iload_n hX dX7_isAudit_0 rfl 1 rfl ?_
  refine jw_iconst (v := (0 : Int32)) hX dX7_isAudit_1 (by decide) ?_
  refine jw_aload_n hX dX7_isAudit_2 rfl 0 rfl ?_
  refine jw_mgetI hX hT inX7_isAudit 21 (by decide) lkX7_isAudit_203 rfl dX7_isAudit_3 ?_
  refine jw_iconst (v := (1 : Int32)) hX dX7_isAudit_6 (by decide) ?_
  refine jw_isub hX dX7_isAudit_7 ?_
  obtain ⟨r8, hc8, h⟩ := bP_some h
  refine jw_cSi (As := [.int v1, .int (0 : Int32), .int ((w.1 21) - (1 : Int32))]) hX jG0_ok hGX 3 (kX7_isIn hT hc8) gX7_isAudit_X7_isIn rfl hdX7_isIn ⟨by decide, by decide⟩ rfl (Nat.le_of_ble_eq_true rfl) dX7_isAudit_8 rfl rfl ⟨by decide, by decide⟩ ?_
  obtain ⟨hz11, h⟩ := chk_some h
  exact hret _ _ _ _ _ _ (b01_or hz11) (Nat.zero_le _) (Nat.zero_le _) dX7_isAudit_11 (hro _ (Option.some.inj h).symm)
set_option maxRecDepth 100000 in
set_option maxHeartbeats 4000000 in
theorem kX7_isAudit {l : Launch} {D : va_G} {tys : List (ClassId × FieldType)} {a : Nat} {ad : Nat → Nat} {cI cZ cO cJ : ClassId} {w : MW} {v1 : Int32} {r : Int32} (hT : tys = jTy cI cZ cO cJ) (h : fX7_isAudit w v1 = some r) : CC l jG0 D tys yX7_isAudit wsX7_isAudit rmX7_isAudit [.ref a, .int v1] (mW a ad cI cZ w) (fun ov w2 => ov = some (.int r) ∧ w2 = (mW a ad cI cZ w)) := by
  refine CC_of (cc := cX7_isAudit) (maxL := 2) (ret := (some .boolean)) (by decide) rfl (Nat.le_of_ble_eq_true rfl) ?_
  intro X hD hL hT0 hGX hX rI rZ rV rA
  exact sX7_isAudit (post := fun ov w2 => ov = some (.int r) ∧ w2 = (mW a ad cI cZ w)) hX (hT0.trans hT) hGX (fun cells slots w9 pc lv v => rZ cells slots w9 pc lv v rfl) (o := r) (fun v9 e9 => by cases e9; exact ⟨rfl, rfl⟩) h
