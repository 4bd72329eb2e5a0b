/-! X7_closes -/
abbrev rmX7_closes : Room := { frames := 2, cells := 0, slots := 0, locals := 45 }
theorem hdX7_closes : yX7_closes.cls = RX7 ∧ yX7_closes.cls ≠ "java/lang/invoke/MethodHandle" ∧ yX7_closes.cls ≠ "java/lang/invoke/VarHandle" ∧ (parseMethodDescriptor yX7_closes.desc).map (fun d => d.parameters.length) = some 2 := by decide +kernel
theorem inX7_closes : ∀ w ∈ wsX70, w ∈ wsX7_closes := fun _ h => List.mem_cons_of_mem _ (List.mem_append_right _ h)
theorem lkX7_closes_101 : Cond.fieldLink RX7 101 "PostlintModel" (TX7 37).2.1 (TX7 37).2.2.1 ∈ wsX7_closes := by decide +kernel
theorem lkX7_closes_104 : Cond.fieldLink RX7 104 "PostlintModel" (TX7 39).2.1 (TX7 39).2.2.1 ∈ wsX7_closes := by decide +kernel
theorem lkX7_closes_110 : Cond.fieldLink RX7 110 "PostlintModel" (TX7 42).2.1 (TX7 42).2.2.1 ∈ wsX7_closes := by decide +kernel
theorem lkX7_closes_113 : Cond.fieldLink RX7 113 "PostlintModel" (TX7 43).2.1 (TX7 43).2.2.1 ∈ wsX7_closes := by decide +kernel
theorem lkX7_closes_140 : Cond.fieldLink RX7 140 "PostlintModel" (TX7 40).2.1 (TX7 40).2.2.1 ∈ wsX7_closes := by decide +kernel
theorem lkX7_closes_150 : Cond.fieldLink RX7 150 "PostlintModel" (TX7 38).2.1 (TX7 38).2.2.1 ∈ wsX7_closes := by decide +kernel
theorem lkX7_closes_86 : Cond.fieldLink RX7 86 "PostlintModel" (TX7 32).2.1 (TX7 32).2.2.1 ∈ wsX7_closes := by decide +kernel
theorem lkX7_closes_89 : Cond.fieldLink RX7 89 "PostlintModel" (TX7 33).2.1 (TX7 33).2.2.1 ∈ wsX7_closes := by decide +kernel
theorem lkX7_closes_92 : Cond.fieldLink RX7 92 "PostlintModel" (TX7 34).2.1 (TX7 34).2.2.1 ∈ wsX7_closes := by decide +kernel
theorem lkX7_closes_95 : Cond.fieldLink RX7 95 "PostlintModel" (TX7 35).2.1 (TX7 35).2.2.1 ∈ wsX7_closes := by decide +kernel
theorem lkX7_closes_98 : Cond.fieldLink RX7 98 "PostlintModel" (TX7 36).2.1 (TX7 36).2.2.1 ∈ wsX7_closes := by decide +kernel
def fX7_closes_J171 (n : Nat) (rec : MW → Int32 → Int32 → Int32 → Int32 → Int32 → Int32 → Int32 → Option (Int32 × Int32 × Int32 × Int32 × Int32 × Int32 × MW)) (w : MW) (v1 v2 v4 v5 v6 v7 v8 t0 t1 : Int32) : Option (Int32 × Int32 × Int32 × Int32 × Int32 × Int32 × MW) := chk (inB t1 (mLen 39)) (bnd (mA w 39 (t1).toNatClampNeg t0) (fun w171 => bnd (mS w171 38 ((w171.1 38) + (1 : Int32))) (fun w179 => rec w179 v1 v2 v4 v5 v6 v7 ((v8 + (1 : Int32))))))
def fX7_closes_L121 (n : Nat) : Nat → MW → Int32 → Int32 → Int32 → Int32 → Int32 → Int32 → Int32 → Option (Int32 × Int32 × Int32 × Int32 × Int32 × Int32 × MW)
  | 0, _, _, _, _, _, _, _, _ => none
  | k + 1, w, v1, v2, v4, v5, v6, v7, v8 => (if v7 ≤ v8 then some (v1, v2, v4, v5, v6, v7, w) else (if v5 = 0 then chk (inB (((32 : Int32) * v1) + v8) (mLen 43)) (fX7_closes_J171 n (fX7_closes_L121 n k) w v1 v2 v4 v5 v6 v7 v8 (w.2 43 ((((32 : Int32) * v1) + v8)).toNatClampNeg) (w.1 38)) else chk (inB v4 (mLen 36)) (chk (inB ((w.2 36 (v4).toNatClampNeg) + v8) (mLen 39)) (fX7_closes_J171 n (fX7_closes_L121 n k) w v1 v2 v4 v5 v6 v7 v8 (w.2 39 (((w.2 36 (v4).toNatClampNeg) + v8)).toNatClampNeg) (w.1 38)))))
def fX7_closes_J268 (n : Nat) (rec : MW → Int32 → Int32 → Int32 → Int32 → Option (Int32 × MW)) (w : MW) (v6 v7 v8 v9 : Int32) : Option (Int32 × MW) := chk (inB (v6 + v9) (mLen 39)) (bP (fX7_putsItem n w (w.2 39 ((v6 + v9)).toNatClampNeg)) (fun w279 => rec w279 v6 v7 v8 ((v9 + (1 : Int32)))))
def fX7_closes_L250 (n : Nat) : Nat → MW → Int32 → Int32 → Int32 → Int32 → Option (Int32 × MW)
  | 0, _, _, _, _, _ => none
  | k + 1, w, v6, v7, v8, v9 => (if v7 ≤ v9 then some (v8, w) else (if v9 ≤ 0 then fX7_closes_J268 n (fX7_closes_L250 n k) w v6 v7 v8 v9 else bP (fX7_putsSign w (32 : Int32)) (fun w265 => fX7_closes_J268 n (fX7_closes_L250 n k) w265 v6 v7 v8 v9)))
def fX7_closes_J240 (n : Nat) (w : MW) (v6 v7 v8 t0 t1 : Int32) : Option MW := chk (inB t1 (mLen 33)) (bnd (mA w 33 (t1).toNatClampNeg t0) (fun w240 => bP (fX7_putsSign w240 (40 : Int32)) (fun w244 => bL2 (fX7_closes_L250 n n w244 v6 v7 v8 (0 : Int32)) (fun x8_250 wx250 => bP (fX7_putsSign wx250 (41 : Int32)) (fun w291 => bP (fX7_putsSign w291 (120 : Int32)) (fun w297 => chk (inB x8_250 (mLen 33)) (bP (fX7_putsNumber w297 (w297.2 33 (x8_250).toNatClampNeg)) (fun w308 => chk (inB x8_250 (mLen 34)) (chk (inB x8_250 (mLen 35)) (bnd (mA w308 35 (x8_250).toNatClampNeg ((w308.1 40) - (w308.2 34 (x8_250).toNatClampNeg))) (fun w329 => some w329)))))))))))
def fX7_closes_J116 (n : Nat) (w : MW) (v1 v2 v4 v5 v6 t0 : Int32) : Option MW := bL7 (fX7_closes_L121 n n w v1 v2 v4 v5 v6 t0 (0 : Int32)) (fun x1_121 x2_121 x4_121 x5_121 x6_121 x7_121 wx121 => b2 (fX7_begins wx121 (x1_121 - (1 : Int32)) (1 : Int32)) (fun r193 w193 => chk (inB r193 (mLen 36)) (bnd (mA w193 36 (r193).toNatClampNeg x6_121) (fun w206 => chk (inB r193 (mLen 37)) (bnd (mA w206 37 (r193).toNatClampNeg x7_121) (fun w215 => (if x5_121 = 0 then fX7_closes_J240 n w215 x6_121 x7_121 r193 x2_121 r193 else chk (inB x4_121 (mLen 33)) (fX7_closes_J240 n w215 x6_121 x7_121 r193 ((w215.2 33 (x4_121).toNatClampNeg) * x2_121) r193))))))))
def fX7_closes_J92 (n : Nat) (w : MW) (v1 v2 v3 v4 t0 : Int32) : Option MW := bnd ((w.1 38)) (fun y98 => (if t0 = 0 then fX7_closes_J116 n w v1 v2 v4 t0 y98 v3 else chk (inB v4 (mLen 37)) (fX7_closes_J116 n w v1 v2 v4 t0 y98 (w.2 37 (v4).toNatClampNeg))))
def fX7_closes_J91 (n : Nat) (w : MW) (v1 v2 v3 v4 : Int32) : Option MW := fX7_closes_J92 n w v1 v2 v3 v4 (0 : Int32)
def fX7_closes_L26 (n : Nat) : Nat → MW → Int32 → Int32 → Int32 → Option (MW)
  | 0, _, _, _, _ => none
  | k + 1, w, v1, v3, v5 => (if v3 ≤ v5 then some (w) else chk (inB (((32 : Int32) * v1) + v5) (mLen 43)) (bP (fX7_joins w (v1 - (1 : Int32)) (w.2 43 ((((32 : Int32) * v1) + v5)).toNatClampNeg)) (fun w48 => fX7_closes_L26 n k w48 v1 v3 ((v5 + (1 : Int32))))))
def fX7_closes (n : Nat) (w : MW) (v1 v2 : Int32) : Option MW := chk (inB v1 (mLen 42)) (bnd ((w.2 42 (v1).toNatClampNeg)) (fun y6 => chk (inB ((32 : Int32) * v1) (mLen 43)) (bnd ((w.2 43 (((32 : Int32) * v1)).toNatClampNeg)) (fun y16 => (if v2 = (1 : Int32) then bL1 (fX7_closes_L26 n n w v1 y6 (0 : Int32)) (fun wx26 => some wx26) else (if y6 = (1 : Int32) then chk (inB y16 (mLen 32)) ((if (w.2 32 (y16).toNatClampNeg) = 0 then fX7_closes_J91 n w v1 v2 y6 y16 else chk (inB y16 (mLen 33)) ((if (9 : Int32) < ((w.2 33 (y16).toNatClampNeg) * v2) then fX7_closes_J91 n w v1 v2 y6 y16 else fX7_closes_J92 n w v1 v2 y6 y16 (1 : Int32))))) else fX7_closes_J91 n w v1 v2 y6 y16))))))
set_option maxRecDepth 100000 in
set_option maxHeartbeats 4000000 in
theorem sX7_closes_J171 {X : JX} {a : Nat} {ad : Nat → Nat} {cI cZ cO cJ : ClassId} {n : Nat} {post : Option Value → va_W → Prop} (hX : jOK X cX7_closes 10 wsX7_closes RX7 rmX7_closes) (hT : jT X = jTy cI cZ cO cJ) (hGX : jG X jG0) (hret : jRV X cX7_closes rmX7_closes post) {o : (Int32 × Int32 × Int32 × Int32 × Int32 × Int32 × MW)} {rec : MW → Int32 → Int32 → Int32 → Int32 → Int32 → Int32 → Int32 → Option (Int32 × Int32 × Int32 × Int32 × Int32 × Int32 × MW)} (hrec : ∀ (w : MW) (v1 v2 v4 v5 v6 v7 v8 : Int32), rec w v1 v2 v4 v5 v6 v7 v8 = some o → JW X 0 0 (mW a ad cI cZ w) 121 [(0, .ref a), (1, .int v1), (2, .int v2), (4, .int v4), (5, .int v5), (6, .int v6), (7, .int v7), (8, .int v8)] [])  (hex : ∀ (x1 x2 x4 x5 x6 x7 : Int32) (w9 : MW), o = (x1, x2, x4, x5, x6, x7, w9) → JW X 0 0 (mW a ad cI cZ w9) 188 [(0, .ref a), (1, .int x1), (2, .int x2), (4, .int x4), (5, .int x5), (6, .int x6), (7, .int x7)] [])  {w : MW} {v1 v2 v4 v5 v6 v7 v8 t0 t1 : Int32} (h : fX7_closes_J171 n rec w v1 v2 v4 v5 v6 v7 v8 t0 t1 = some o) : JW X 0 0 (mW a ad cI cZ w) 171 [(0, .ref a), (1, .int v1), (2, .int v2), (4, .int v4), (5, .int v5), (6, .int v6), (7, .int v7), (8, .int v8)] [.int t0, .int t1, .ref (ad 39)] := by
  unfold fX7_closes_J171 at h
  obtain ⟨hb171, h⟩ := chk_some h
  refine jw_miast hX hT 31 39 rfl rfl hb171 dX7_closes_171 (fun w171 e171 => ?_)
  replace h := bnd_some h w171 e171
  clear e171
  refine jw_aload_n hX dX7_closes_172 rfl 0 rfl ?_
  refine jw_dup hX dX7_closes_173 rfl ?_
  refine jw_mgetI hX hT inX7_closes 38 (by decide) lkX7_closes_150 rfl dX7_closes_174 ?_
  refine jw_iconst (v := (1 : Int32)) hX dX7_closes_177 (by decide) ?_
  refine jw_iadd hX dX7_closes_178 ?_
  refine jw_mputI hX hT inX7_closes 38 (by decide) lkX7_closes_150 rfl dX7_closes_179 (fun w179 e179 => ?_)
  replace h := bnd_some h w179 e179
  clear e179
  refine jw_iinc (v := (v8 + (1 : Int32))) hX [(8, .int (v8 + (1 : Int32))), (0, .ref a), (1, .int v1), (2, .int v2), (4, .int v4), (5, .int v5), (6, .int v6), (7, .int v7)] dX7_closes_182 7 rfl (by first | rfl | (congr 1; decide)) (by decide) rfl ?_
  refine jw_goto (tgt := 121) hX dX7_closes_185 (by decide) ?_
  refine jw_sub [1, 2, 3, 4, 5, 6, 7, 0] [(0, .ref a), (1, .int v1), (2, .int v2), (4, .int v4), (5, .int v5), (6, .int v6), (7, .int v7), (8, .int (v8 + (1 : Int32)))] rfl ?_
  exact hrec _ _ _ _ _ _ _ _ h
set_option maxRecDepth 100000 in
set_option maxHeartbeats 4000000 in
theorem sX7_closes_L121 {X : JX} {a : Nat} {ad : Nat → Nat} {cI cZ cO cJ : ClassId} {n : Nat} {post : Option Value → va_W → Prop} (hX : jOK X cX7_closes 10 wsX7_closes RX7 rmX7_closes) (hT : jT X = jTy cI cZ cO cJ) (hGX : jG X jG0) (hret : jRV X cX7_closes rmX7_closes post) {o : (Int32 × Int32 × Int32 × Int32 × Int32 × Int32 × MW)} (hex : ∀ (x1 x2 x4 x5 x6 x7 : Int32) (w9 : MW), o = (x1, x2, x4, x5, x6, x7, w9) → JW X 0 0 (mW a ad cI cZ w9) 188 [(0, .ref a), (1, .int x1), (2, .int x2), (4, .int x4), (5, .int x5), (6, .int x6), (7, .int x7)] [])  : ∀ (k : Nat) (w : MW) (v1 v2 v4 v5 v6 v7 v8 : Int32), fX7_closes_L121 n k w v1 v2 v4 v5 v6 v7 v8 = some o → JW X 0 0 (mW a ad cI cZ w) 121 [(0, .ref a), (1, .int v1), (2, .int v2), (4, .int v4), (5, .int v5), (6, .int v6), (7, .int v7), (8, .int v8)] [] := by
  intro k
  induction k with
  | zero => intro w v1 v2 v4 v5 v6 v7 v8 h; cases h
  | succ k hrec0 =>
    intro w v1 v2 v4 v5 v6 v7 v8 h
    have hrec := hrec0
    unfold fX7_closes_L121 at h
    refine jw_iload hX dX7_closes_121 7 rfl ?_
    refine jw_iload hX dX7_closes_123 6 rfl ?_
    refine jw_icmp_ge (tgt := 188) hX dX7_closes_125 (by decide) (fun hc => ?_) (fun hc => ?_)
    · rw [if_pos hc] at h
      refine jw_sub [0, 1, 2, 3, 4, 5, 6] [(0, .ref a), (1, .int v1), (2, .int v2), (4, .int v4), (5, .int v5), (6, .int v6), (7, .int v7)] rfl ?_
      exact hex _ _ _ _ _ _ _ (Option.some.inj h).symm
    · rw [if_neg hc] at h
      refine jw_aload_n hX dX7_closes_128 rfl 0 rfl ?_
      refine jw_mgetA hX hT inX7_closes 39 (by decide) lkX7_closes_104 rfl dX7_closes_129 ?_
      refine jw_aload_n hX dX7_closes_132 rfl 0 rfl ?_
      refine jw_mgetI hX hT inX7_closes 38 (by decide) lkX7_closes_150 rfl dX7_closes_133 ?_
      refine jw_iload hX dX7_closes_136 4 rfl ?_
      refine jw_if_eq (tgt := 159) hX dX7_closes_138 (by decide) (fun hc => ?_) (fun hc => ?_)
      · rw [if_pos hc] at h
        refine jw_aload_n hX dX7_closes_159 rfl 0 rfl ?_
        refine jw_mgetA hX hT inX7_closes 43 (by decide) lkX7_closes_113 rfl dX7_closes_160 ?_
        refine jw_bipush (v := (32 : Int32)) hX dX7_closes_163 (by decide) ?_
        refine jw_iload_n hX dX7_closes_165 rfl 1 rfl ?_
        refine jw_imul hX dX7_closes_166 ?_
        refine jw_iload hX dX7_closes_167 7 rfl ?_
        refine jw_iadd hX dX7_closes_169 ?_
        obtain ⟨hb170, h⟩ := chk_some h
        refine jw_miald hX hT 34 43 rfl rfl hb170 dX7_closes_170 ?_
        exact sX7_closes_J171 hX hT hGX hret hrec hex h
      · rw [if_neg hc] at h
        refine jw_aload_n hX dX7_closes_141 rfl 0 rfl ?_
        refine jw_mgetA hX hT inX7_closes 39 (by decide) lkX7_closes_104 rfl dX7_closes_142 ?_
        refine jw_aload_n hX dX7_closes_145 rfl 0 rfl ?_
        refine jw_mgetA hX hT inX7_closes 36 (by decide) lkX7_closes_98 rfl dX7_closes_146 ?_
        refine jw_iload hX dX7_closes_149 3 rfl ?_
        obtain ⟨hb151, h⟩ := chk_some h
        refine jw_miald hX hT 29 36 rfl rfl hb151 dX7_closes_151 ?_
        refine jw_iload hX dX7_closes_152 7 rfl ?_
        refine jw_iadd hX dX7_closes_154 ?_
        obtain ⟨hb155, h⟩ := chk_some h
        refine jw_miald hX hT 31 39 rfl rfl hb155 dX7_closes_155 ?_
        refine jw_goto (tgt := 171) hX dX7_closes_156 (by decide) ?_
        exact sX7_closes_J171 hX hT hGX hret hrec hex h
set_option maxRecDepth 100000 in
set_option maxHeartbeats 4000000 in
theorem sX7_closes_J268 {X : JX} {a : Nat} {ad : Nat → Nat} {cI cZ cO cJ : ClassId} {n : Nat} {post : Option Value → va_W → Prop} (hX : jOK X cX7_closes 10 wsX7_closes RX7 rmX7_closes) (hT : jT X = jTy cI cZ cO cJ) (hGX : jG X jG0) (hret : jRV X cX7_closes rmX7_closes post) {o : (Int32 × MW)} {rec : MW → Int32 → Int32 → Int32 → Int32 → Option (Int32 × MW)} (hrec : ∀ (w : MW) (v6 v7 v8 v9 : Int32), rec w v6 v7 v8 v9 = some o → JW X 0 0 (mW a ad cI cZ w) 250 [(0, .ref a), (6, .int v6), (7, .int v7), (8, .int v8), (9, .int v9)] [])  (hex : ∀ (x8 : Int32) (w9 : MW), o = (x8, w9) → JW X 0 0 (mW a ad cI cZ w9) 288 [(0, .ref a), (8, .int x8)] [])  {w : MW} {v6 v7 v8 v9 : Int32} (h : fX7_closes_J268 n rec w v6 v7 v8 v9 = some o) : JW X 0 0 (mW a ad cI cZ w) 268 [(0, .ref a), (6, .int v6), (7, .int v7), (8, .int v8), (9, .int v9)] [] := by
  unfold fX7_closes_J268 at h
  refine jw_aload_n hX dX7_closes_268 rfl 0 rfl ?_
  refine jw_aload_n hX dX7_closes_269 rfl 0 rfl ?_
  refine jw_mgetA hX hT inX7_closes 39 (by decide) lkX7_closes_104 rfl dX7_closes_270 ?_
  refine jw_iload hX dX7_closes_273 1 rfl ?_
  refine jw_iload hX dX7_closes_275 4 rfl ?_
  refine jw_iadd hX dX7_closes_277 ?_
  obtain ⟨hb278, h⟩ := chk_some h
  refine jw_miald hX hT 31 39 rfl rfl hb278 dX7_closes_278 ?_
  obtain ⟨w279, hc279, h⟩ := bP_some h
  refine jw_cVv (As := [.int (w.2 39 ((v6 + v9)).toNatClampNeg)]) hX jG0_ok hGX 1 (kX7_putsItem hT hc279) gX7_closes_X7_putsItem rfl hdX7_putsItem ⟨by decide, by decide⟩ 0 7 rfl rfl rfl (Nat.le_of_ble_eq_true rfl) dX7_closes_279 rfl rfl ⟨by decide, by decide⟩ ?_
  refine jw_iinc (v := (v9 + (1 : Int32))) hX [(9, .int (v9 + (1 : Int32))), (0, .ref a), (6, .int v6), (7, .int v7), (8, .int v8)] dX7_closes_282 4 rfl (by first | rfl | (congr 1; decide)) (by decide) rfl ?_
  refine jw_goto (tgt := 250) hX dX7_closes_285 (by decide) ?_
  refine jw_sub [1, 2, 3, 4, 0] [(0, .ref a), (6, .int v6), (7, .int v7), (8, .int v8), (9, .int (v9 + (1 : Int32)))] rfl ?_
  exact hrec _ _ _ _ _ h
set_option maxRecDepth 100000 in
set_option maxHeartbeats 4000000 in
theorem sX7_closes_L250 {X : JX} {a : Nat} {ad : Nat → Nat} {cI cZ cO cJ : ClassId} {n : Nat} {post : Option Value → va_W → Prop} (hX : jOK X cX7_closes 10 wsX7_closes RX7 rmX7_closes) (hT : jT X = jTy cI cZ cO cJ) (hGX : jG X jG0) (hret : jRV X cX7_closes rmX7_closes post) {o : (Int32 × MW)} (hex : ∀ (x8 : Int32) (w9 : MW), o = (x8, w9) → JW X 0 0 (mW a ad cI cZ w9) 288 [(0, .ref a), (8, .int x8)] [])  : ∀ (k : Nat) (w : MW) (v6 v7 v8 v9 : Int32), fX7_closes_L250 n k w v6 v7 v8 v9 = some o → JW X 0 0 (mW a ad cI cZ w) 250 [(0, .ref a), (6, .int v6), (7, .int v7), (8, .int v8), (9, .int v9)] [] := by
  intro k
  induction k with
  | zero => intro w v6 v7 v8 v9 h; cases h
  | succ k hrec0 =>
    intro w v6 v7 v8 v9 h
    have hrec := hrec0
    unfold fX7_closes_L250 at h
    refine jw_iload hX dX7_closes_250 4 rfl ?_
    refine jw_iload hX dX7_closes_252 2 rfl ?_
    refine jw_icmp_ge (tgt := 288) hX dX7_closes_254 (by decide) (fun hc => ?_) (fun hc => ?_)
    · rw [if_pos hc] at h
      refine jw_sub [0, 3] [(0, .ref a), (8, .int v8)] rfl ?_
      exact hex _ _ (Option.some.inj h).symm
    · rw [if_neg hc] at h
      refine jw_iload hX dX7_closes_257 4 rfl ?_
      refine jw_if_le (tgt := 268) hX dX7_closes_259 (by decide) (fun hc => ?_) (fun hc => ?_)
      · rw [if_pos hc] at h
        exact sX7_closes_J268 hX hT hGX hret hrec hex h
      · rw [if_neg hc] at h
        refine jw_aload_n hX dX7_closes_262 rfl 0 rfl ?_
        refine jw_bipush (v := (32 : Int32)) hX dX7_closes_263 (by decide) ?_
        obtain ⟨w265, hc265, h⟩ := bP_some h
        refine jw_cVv (As := [.int (32 : Int32)]) hX jG0_ok hGX 1 (kX7_putsSign hT hc265) gX7_closes_X7_putsSign rfl hdX7_putsSign ⟨by decide, by decide⟩ 0 7 rfl rfl rfl (Nat.le_of_ble_eq_true rfl) dX7_closes_265 rfl rfl ⟨by decide, by decide⟩ ?_
        exact sX7_closes_J268 hX hT hGX hret hrec hex h
set_option maxRecDepth 100000 in
set_option maxHeartbeats 4000000 in
theorem sX7_closes_J240 {X : JX} {a : Nat} {ad : Nat → Nat} {cI cZ cO cJ : ClassId} {n : Nat} {post : Option Value → va_W → Prop} (hX : jOK X cX7_closes 10 wsX7_closes RX7 rmX7_closes) (hT : jT X = jTy cI cZ cO cJ) (hGX : jG X jG0) (hret : jRV X cX7_closes rmX7_closes post) {o : MW}   (hro : ∀ w9 : MW, o = w9 → post none (mW a ad cI cZ w9)) {w : MW} {v6 v7 v8 t0 t1 : Int32} (h : fX7_closes_J240 n w v6 v7 v8 t0 t1 = some o) : JW X 0 0 (mW a ad cI cZ w) 240 [(0, .ref a), (6, .int v6), (7, .int v7), (8, .int v8)] [.int t0, .int t1, .ref (ad 33)] := by
  unfold fX7_closes_J240 at h
  obtain ⟨hb240, h⟩ := chk_some h
  refine jw_miast hX hT 26 33 rfl rfl hb240 dX7_closes_240 (fun w240 e240 => ?_)
  replace h := bnd_some h w240 e240
  clear e240
  refine jw_aload_n hX dX7_closes_241 rfl 0 rfl ?_
  refine jw_bipush (v := (40 : Int32)) hX dX7_closes_242 (by decide) ?_
  obtain ⟨w244, hc244, h⟩ := bP_some h
  refine jw_cVv (As := [.int (40 : Int32)]) hX jG0_ok hGX 1 (kX7_putsSign hT hc244) gX7_closes_X7_putsSign rfl hdX7_putsSign ⟨by decide, by decide⟩ 0 7 rfl rfl rfl (Nat.le_of_ble_eq_true rfl) dX7_closes_244 rfl rfl ⟨by decide, by decide⟩ ?_
  refine jw_iconst (v := (0 : Int32)) hX dX7_closes_247 (by decide) ?_
  refine jw_istore hX [(9, .int (0 : Int32)), (0, .ref a), (6, .int v6), (7, .int v7), (8, .int v8)] dX7_closes_248 (by decide) rfl ?_
  refine jw_sub [1, 2, 3, 4, 0] [(0, .ref a), (6, .int v6), (7, .int v7), (8, .int v8), (9, .int (0 : Int32))] rfl ?_
  obtain ⟨x8_250, wx250, hl250, h⟩ := bL2_some h
  refine sX7_closes_L250 hX hT hGX hret (o := (x8_250, wx250)) (fun q0 q1 e9 => ?_) n _ _ _ _ _ hl250
  cases e9
  refine jw_aload_n hX dX7_closes_288 rfl 0 rfl ?_
  refine jw_bipush (v := (41 : Int32)) hX dX7_closes_289 (by decide) ?_
  obtain ⟨w291, hc291, h⟩ := bP_some h
  refine jw_cVv (As := [.int (41 : Int32)]) hX jG0_ok hGX 1 (kX7_putsSign hT hc291) gX7_closes_X7_putsSign rfl hdX7_putsSign ⟨by decide, by decide⟩ 0 7 rfl rfl rfl (Nat.le_of_ble_eq_true rfl) dX7_closes_291 rfl rfl ⟨by decide, by decide⟩ ?_
  refine jw_aload_n hX dX7_closes_294 rfl 0 rfl ?_
  refine jw_bipush (v := (120 : Int32)) hX dX7_closes_295 (by decide) ?_
  obtain ⟨w297, hc297, h⟩ := bP_some h
  refine jw_cVv (As := [.int (120 : Int32)]) hX jG0_ok hGX 1 (kX7_putsSign hT hc297) gX7_closes_X7_putsSign rfl hdX7_putsSign ⟨by decide, by decide⟩ 0 7 rfl rfl rfl (Nat.le_of_ble_eq_true rfl) dX7_closes_297 rfl rfl ⟨by decide, by decide⟩ ?_
  refine jw_aload_n hX dX7_closes_300 rfl 0 rfl ?_
  refine jw_aload_n hX dX7_closes_301 rfl 0 rfl ?_
  refine jw_mgetA hX hT inX7_closes 33 (by decide) lkX7_closes_89 rfl dX7_closes_302 ?_
  refine jw_iload hX dX7_closes_305 1 rfl ?_
  obtain ⟨hb307, h⟩ := chk_some h
  refine jw_miald hX hT 26 33 rfl rfl hb307 dX7_closes_307 ?_
  obtain ⟨w308, hc308, h⟩ := bP_some h
  refine jw_cVv (As := [.int (w297.2 33 (x8_250).toNatClampNeg)]) hX jG0_ok hGX 1 (kX7_putsNumber hT hc308) gX7_closes_X7_putsNumber rfl hdX7_putsNumber ⟨by decide, by decide⟩ 0 7 rfl rfl rfl (Nat.le_of_ble_eq_true rfl) dX7_closes_308 rfl rfl ⟨by decide, by decide⟩ ?_
  refine jw_aload_n hX dX7_closes_311 rfl 0 rfl ?_
  refine jw_mgetA hX hT inX7_closes 35 (by decide) lkX7_closes_95 rfl dX7_closes_312 ?_
  refine jw_iload hX dX7_closes_315 1 rfl ?_
  refine jw_aload_n hX dX7_closes_317 rfl 0 rfl ?_
  refine jw_mgetI hX hT inX7_closes 40 (by decide) lkX7_closes_140 rfl dX7_closes_318 ?_
  refine jw_aload_n hX dX7_closes_321 rfl 0 rfl ?_
  refine jw_mgetA hX hT inX7_closes 34 (by decide) lkX7_closes_92 rfl dX7_closes_322 ?_
  refine jw_iload hX dX7_closes_325 1 rfl ?_
  obtain ⟨hb327, h⟩ := chk_some h
  refine jw_miald hX hT 27 34 rfl rfl hb327 dX7_closes_327 ?_
  refine jw_isub hX dX7_closes_328 ?_
  obtain ⟨hb329, h⟩ := chk_some h
  refine jw_miast hX hT 28 35 rfl rfl hb329 dX7_closes_329 (fun w329 e329 => ?_)
  replace h := bnd_some h w329 e329
  clear e329
  exact hret _ _ _ _ _ (Nat.zero_le _) (Nat.zero_le _) dX7_closes_330 (hro _ (Option.some.inj h).symm)
set_option maxRecDepth 100000 in
set_option maxHeartbeats 4000000 in
theorem sX7_closes_J116 {X : JX} {a : Nat} {ad : Nat → Nat} {cI cZ cO cJ : ClassId} {n : Nat} {post : Option Value → va_W → Prop} (hX : jOK X cX7_closes 10 wsX7_closes RX7 rmX7_closes) (hT : jT X = jTy cI cZ cO cJ) (hGX : jG X jG0) (hret : jRV X cX7_closes rmX7_closes post) {o : MW}   (hro : ∀ w9 : MW, o = w9 → post none (mW a ad cI cZ w9)) {w : MW} {v1 v2 v4 v5 v6 t0 : Int32} (h : fX7_closes_J116 n w v1 v2 v4 v5 v6 t0 = some o) : JW X 0 0 (mW a ad cI cZ w) 116 [(0, .ref a), (1, .int v1), (2, .int v2), (4, .int v4), (5, .int v5), (6, .int v6)] [.int t0] := by
  unfold fX7_closes_J116 at h
  refine jw_istore hX [(7, .int t0), (0, .ref a), (1, .int v1), (2, .int v2), (4, .int v4), (5, .int v5), (6, .int v6)] dX7_closes_116 (by decide) rfl ?_
  refine jw_iconst (v := (0 : Int32)) hX dX7_closes_118 (by decide) ?_
  refine jw_istore hX [(8, .int (0 : Int32)), (7, .int t0), (0, .ref a), (1, .int v1), (2, .int v2), (4, .int v4), (5, .int v5), (6, .int v6)] dX7_closes_119 (by decide) rfl ?_
  refine jw_sub [2, 3, 4, 5, 6, 7, 1, 0] [(0, .ref a), (1, .int v1), (2, .int v2), (4, .int v4), (5, .int v5), (6, .int v6), (7, .int t0), (8, .int (0 : Int32))] rfl ?_
  obtain ⟨x1_121, x2_121, x4_121, x5_121, x6_121, x7_121, wx121, hl121, h⟩ := bL7_some h
  refine sX7_closes_L121 hX hT hGX hret (o := (x1_121, x2_121, x4_121, x5_121, x6_121, x7_121, wx121)) (fun q0 q1 q2 q3 q4 q5 q6 e9 => ?_) n _ _ _ _ _ _ _ _ hl121
  cases e9
  refine jw_aload_n hX dX7_closes_188 rfl 0 rfl ?_
  refine jw_iload_n hX dX7_closes_189 rfl 1 rfl ?_
  refine jw_iconst (v := (1 : Int32)) hX dX7_closes_190 (by decide) ?_
  refine jw_isub hX dX7_closes_191 ?_
  refine jw_iconst (v := (1 : Int32)) hX dX7_closes_192 (by decide) ?_
  obtain ⟨r193, w193, hc193, h⟩ := b2_some h
  refine jw_cVi (As := [.int (x1_121 - (1 : Int32)), .int (1 : Int32)]) hX jG0_ok hGX 2 (kX7_begins hT hc193) gX7_closes_X7_begins rfl hdX7_begins ⟨by decide, by decide⟩ 0 7 rfl rfl rfl (Nat.le_of_ble_eq_true rfl) dX7_closes_193 rfl rfl ⟨by decide, by decide⟩ ?_
  refine jw_istore hX [(8, .int r193), (0, .ref a), (1, .int x1_121), (2, .int x2_121), (4, .int x4_121), (5, .int x5_121), (6, .int x6_121), (7, .int x7_121)] dX7_closes_196 (by decide) rfl ?_
  refine jw_aload_n hX dX7_closes_198 rfl 1 rfl ?_
  refine jw_mgetA hX hT inX7_closes 36 (by decide) lkX7_closes_98 rfl dX7_closes_199 ?_
  refine jw_iload hX dX7_closes_202 0 rfl ?_
  refine jw_iload hX dX7_closes_204 6 rfl ?_
  obtain ⟨hb206, h⟩ := chk_some h
  refine jw_miast hX hT 29 36 rfl rfl hb206 dX7_closes_206 (fun w206 e206 => ?_)
  replace h := bnd_some h w206 e206
  clear e206
  refine jw_aload_n hX dX7_closes_207 rfl 1 rfl ?_
  refine jw_mgetA hX hT inX7_closes 37 (by decide) lkX7_closes_101 rfl dX7_closes_208 ?_
  refine jw_iload hX dX7_closes_211 0 rfl ?_
  refine jw_iload hX dX7_closes_213 7 rfl ?_
  obtain ⟨hb215, h⟩ := chk_some h
  refine jw_miast hX hT 30 37 rfl rfl hb215 dX7_closes_215 (fun w215 e215 => ?_)
  replace h := bnd_some h w215 e215
  clear e215
  refine jw_aload_n hX dX7_closes_216 rfl 1 rfl ?_
  refine jw_mgetA hX hT inX7_closes 33 (by decide) lkX7_closes_89 rfl dX7_closes_217 ?_
  refine jw_iload hX dX7_closes_220 0 rfl ?_
  refine jw_iload hX dX7_closes_222 5 rfl ?_
  refine jw_if_eq (tgt := 239) hX dX7_closes_224 (by decide) (fun hc => ?_) (fun hc => ?_)
  · rw [if_pos hc] at h
    refine jw_iload_n hX dX7_closes_239 rfl 3 rfl ?_
    refine jw_sub [1, 6, 7, 0] [(0, .ref a), (6, .int x6_121), (7, .int x7_121), (8, .int r193)] rfl ?_
    exact sX7_closes_J240 hX hT hGX hret hro h
  · rw [if_neg hc] at h
    refine jw_aload_n hX dX7_closes_227 rfl 1 rfl ?_
    refine jw_mgetA hX hT inX7_closes 33 (by decide) lkX7_closes_89 rfl dX7_closes_228 ?_
    refine jw_iload hX dX7_closes_231 4 rfl ?_
    obtain ⟨hb233, h⟩ := chk_some h
    refine jw_miald hX hT 26 33 rfl rfl hb233 dX7_closes_233 ?_
    refine jw_iload_n hX dX7_closes_234 rfl 3 rfl ?_
    refine jw_imul hX dX7_closes_235 ?_
    refine jw_goto (tgt := 240) hX dX7_closes_236 (by decide) ?_
    refine jw_sub [1, 6, 7, 0] [(0, .ref a), (6, .int x6_121), (7, .int x7_121), (8, .int r193)] rfl ?_
    exact sX7_closes_J240 hX hT hGX hret hro h
set_option maxRecDepth 100000 in
set_option maxHeartbeats 4000000 in
theorem sX7_closes_J92 {X : JX} {a : Nat} {ad : Nat → Nat} {cI cZ cO cJ : ClassId} {n : Nat} {post : Option Value → va_W → Prop} (hX : jOK X cX7_closes 10 wsX7_closes RX7 rmX7_closes) (hT : jT X = jTy cI cZ cO cJ) (hGX : jG X jG0) (hret : jRV X cX7_closes rmX7_closes post) {o : MW}   (hro : ∀ w9 : MW, o = w9 → post none (mW a ad cI cZ w9)) {w : MW} {v1 v2 v3 v4 t0 : Int32} (h : fX7_closes_J92 n w v1 v2 v3 v4 t0 = some o) : JW X 0 0 (mW a ad cI cZ w) 92 [(0, .ref a), (1, .int v1), (2, .int v2), (3, .int v3), (4, .int v4)] [.int t0] := by
  unfold fX7_closes_J92 at h
  refine jw_istore hX [(5, .int t0), (0, .ref a), (1, .int v1), (2, .int v2), (3, .int v3), (4, .int v4)] dX7_closes_92 (by decide) rfl ?_
  refine jw_aload_n hX dX7_closes_94 rfl 1 rfl ?_
  refine jw_mgetI hX hT inX7_closes 38 (by decide) lkX7_closes_150 rfl dX7_closes_95 ?_
  refine jw_topi (fun y98 e98 => ?_)
  replace h := bnd_some h y98 e98
  clear e98
  refine jw_istore hX [(6, .int y98), (5, .int t0), (0, .ref a), (1, .int v1), (2, .int v2), (3, .int v3), (4, .int v4)] dX7_closes_98 (by decide) rfl ?_
  refine jw_iload hX dX7_closes_100 1 rfl ?_
  refine jw_if_eq (tgt := 115) hX dX7_closes_102 (by decide) (fun hc => ?_) (fun hc => ?_)
  · rw [if_pos hc] at h
    refine jw_iload_n hX dX7_closes_115 rfl 5 rfl ?_
    refine jw_sub [2, 3, 4, 6, 1, 0] [(0, .ref a), (1, .int v1), (2, .int v2), (4, .int v4), (5, .int t0), (6, .int y98)] rfl ?_
    exact sX7_closes_J116 hX hT hGX hret hro h
  · rw [if_neg hc] at h
    refine jw_aload_n hX dX7_closes_105 rfl 2 rfl ?_
    refine jw_mgetA hX hT inX7_closes 37 (by decide) lkX7_closes_101 rfl dX7_closes_106 ?_
    refine jw_iload hX dX7_closes_109 6 rfl ?_
    obtain ⟨hb111, h⟩ := chk_some h
    refine jw_miald hX hT 30 37 rfl rfl hb111 dX7_closes_111 ?_
    refine jw_goto (tgt := 116) hX dX7_closes_112 (by decide) ?_
    refine jw_sub [2, 3, 4, 6, 1, 0] [(0, .ref a), (1, .int v1), (2, .int v2), (4, .int v4), (5, .int t0), (6, .int y98)] rfl ?_
    exact sX7_closes_J116 hX hT hGX hret hro h
set_option maxRecDepth 100000 in
set_option maxHeartbeats 4000000 in
theorem sX7_closes_J91 {X : JX} {a : Nat} {ad : Nat → Nat} {cI cZ cO cJ : ClassId} {n : Nat} {post : Option Value → va_W → Prop} (hX : jOK X cX7_closes 10 wsX7_closes RX7 rmX7_closes) (hT : jT X = jTy cI cZ cO cJ) (hGX : jG X jG0) (hret : jRV X cX7_closes rmX7_closes post) {o : MW}   (hro : ∀ w9 : MW, o = w9 → post none (mW a ad cI cZ w9)) {w : MW} {v1 v2 v3 v4 : Int32} (h : fX7_closes_J91 n w v1 v2 v3 v4 = some o) : JW X 0 0 (mW a ad cI cZ w) 91 [(0, .ref a), (1, .int v1), (2, .int v2), (3, .int v3), (4, .int v4)] [] := by
  unfold fX7_closes_J91 at h
  refine jw_iconst (v := (0 : Int32)) hX dX7_closes_91 (by decide) ?_
  exact sX7_closes_J92 hX hT hGX hret hro h
set_option maxRecDepth 100000 in
set_option maxHeartbeats 4000000 in
theorem sX7_closes_L26 {X : JX} {a : Nat} {ad : Nat → Nat} {cI cZ cO cJ : ClassId} {n : Nat} {post : Option Value → va_W → Prop} (hX : jOK X cX7_closes 10 wsX7_closes RX7 rmX7_closes) (hT : jT X = jTy cI cZ cO cJ) (hGX : jG X jG0) (hret : jRV X cX7_closes rmX7_closes post) {o : (MW)} (hex : ∀ (w9 : MW), o = w9 → JW X 0 0 (mW a ad cI cZ w9) 57 [] [])  : ∀ (k : Nat) (w : MW) (v1 v3 v5 : Int32), fX7_closes_L26 n k w v1 v3 v5 = some o → JW X 0 0 (mW a ad cI cZ w) 26 [(0, .ref a), (1, .int v1), (3, .int v3), (5, .int v5)] [] := by
  intro k
  induction k with
  | zero => intro w v1 v3 v5 h; cases h
  | succ k hrec0 =>
    intro w v1 v3 v5 h
    have hrec := hrec0
    unfold fX7_closes_L26 at h
    refine jw_iload hX dX7_closes_26 3 rfl ?_
    refine jw_iload_n hX dX7_closes_28 rfl 2 rfl ?_
    refine jw_icmp_ge (tgt := 57) hX dX7_closes_29 (by decide) (fun hc => ?_) (fun hc => ?_)
    · rw [if_pos hc] at h
      refine jw_sub [] [] rfl ?_
      exact hex _ (Option.some.inj h).symm
    · rw [if_neg hc] at h
      refine jw_aload_n hX dX7_closes_32 rfl 0 rfl ?_
      refine jw_iload_n hX dX7_closes_33 rfl 1 rfl ?_
      refine jw_iconst (v := (1 : Int32)) hX dX7_closes_34 (by decide) ?_
      refine jw_isub hX dX7_closes_35 ?_
      refine jw_aload_n hX dX7_closes_36 rfl 0 rfl ?_
      refine jw_mgetA hX hT inX7_closes 43 (by decide) lkX7_closes_113 rfl dX7_closes_37 ?_
      refine jw_bipush (v := (32 : Int32)) hX dX7_closes_40 (by decide) ?_
      refine jw_iload_n hX dX7_closes_42 rfl 1 rfl ?_
      refine jw_imul hX dX7_closes_43 ?_
      refine jw_iload hX dX7_closes_44 3 rfl ?_
      refine jw_iadd hX dX7_closes_46 ?_
      obtain ⟨hb47, h⟩ := chk_some h
      refine jw_miald hX hT 34 43 rfl rfl hb47 dX7_closes_47 ?_
      obtain ⟨w48, hc48, h⟩ := bP_some h
      refine jw_cVv (As := [.int (v1 - (1 : Int32)), .int (w.2 43 ((((32 : Int32) * v1) + v5)).toNatClampNeg)]) hX jG0_ok hGX 2 (kX7_joins hT hc48) gX7_closes_X7_joins rfl hdX7_joins ⟨by decide, by decide⟩ 0 7 rfl rfl rfl (Nat.le_of_ble_eq_true rfl) dX7_closes_48 rfl rfl ⟨by decide, by decide⟩ ?_
      refine jw_iinc (v := (v5 + (1 : Int32))) hX [(5, .int (v5 + (1 : Int32))), (0, .ref a), (1, .int v1), (3, .int v3)] dX7_closes_51 3 rfl (by first | rfl | (congr 1; decide)) (by decide) rfl ?_
      refine jw_goto (tgt := 26) hX dX7_closes_54 (by decide) ?_
      refine jw_sub [1, 2, 3, 0] [(0, .ref a), (1, .int v1), (3, .int v3), (5, .int (v5 + (1 : Int32)))] rfl ?_
      exact hrec _ _ _ _ h
set_option maxRecDepth 100000 in
set_option maxHeartbeats 4000000 in
theorem sX7_closes {X : JX} {a : Nat} {ad : Nat → Nat} {cI cZ cO cJ : ClassId} {n : Nat} {post : Option Value → va_W → Prop} (hX : jOK X cX7_closes 10 wsX7_closes RX7 rmX7_closes) (hT : jT X = jTy cI cZ cO cJ) (hGX : jG X jG0) (hret : jRV X cX7_closes rmX7_closes post) {o : MW} (hro : ∀ w9 : MW, o = w9 → post none (mW a ad cI cZ w9)) {w : MW} {v1 v2 : Int32} (h : fX7_closes n w v1 v2 = some o) : JW X 0 0 (mW a ad cI cZ w) 0 [(0, .ref a), (1, .int v1), (2, .int v2)] [] := by
  unfold fX7_closes at h
  refine jw_aload_n hX dX7_closes_0 rfl 0 rfl ?_
  refine jw_mgetA hX hT inX7_closes 42 (by decide) lkX7_closes_110 rfl dX7_closes_1 ?_
  refine jw_iload_n hX dX7_closes_4 rfl 1 rfl ?_
  obtain ⟨hb5, h⟩ := chk_some h
  refine jw_miald hX hT 33 42 rfl rfl hb5 dX7_closes_5 ?_
  refine jw_topi (fun y6 e6 => ?_)
  replace h := bnd_some h y6 e6
  clear e6
  refine jw_istore_n hX [(3, .int y6), (0, .ref a), (1, .int v1), (2, .int v2)] dX7_closes_6 rfl (by decide) rfl ?_
  refine jw_aload_n hX dX7_closes_7 rfl 1 rfl ?_
  refine jw_mgetA hX hT inX7_closes 43 (by decide) lkX7_closes_113 rfl dX7_closes_8 ?_
  refine jw_bipush (v := (32 : Int32)) hX dX7_closes_11 (by decide) ?_
  refine jw_iload_n hX dX7_closes_13 rfl 2 rfl ?_
  refine jw_imul hX dX7_closes_14 ?_
  obtain ⟨hb15, h⟩ := chk_some h
  refine jw_miald hX hT 34 43 rfl rfl hb15 dX7_closes_15 ?_
  refine jw_topi (fun y16 e16 => ?_)
  replace h := bnd_some h y16 e16
  clear e16
  refine jw_istore hX [(4, .int y16), (3, .int y6), (0, .ref a), (1, .int v1), (2, .int v2)] dX7_closes_16 (by decide) rfl ?_
  refine jw_iload_n hX dX7_closes_18 rfl 4 rfl ?_
  refine jw_iconst (v := (1 : Int32)) hX dX7_closes_19 (by decide) ?_
  refine jw_icmp_ne (tgt := 58) hX dX7_closes_20 (by decide) (fun hc => ?_) (fun hc => ?_)
  · rw [if_neg hc] at h
    refine jw_iload_n hX dX7_closes_58 rfl 1 rfl ?_
    refine jw_iconst (v := (1 : Int32)) hX dX7_closes_59 (by decide) ?_
    refine jw_icmp_ne (tgt := 91) hX dX7_closes_60 (by decide) (fun hc => ?_) (fun hc => ?_)
    · rw [if_neg hc] at h
      refine jw_sub [2, 3, 4, 1, 0] [(0, .ref a), (1, .int v1), (2, .int v2), (3, .int y6), (4, .int y16)] rfl ?_
      exact sX7_closes_J91 hX hT hGX hret hro h
    · rw [if_pos hc] at h
      refine jw_aload_n hX dX7_closes_63 rfl 2 rfl ?_
      refine jw_mgetA hX hT inX7_closes 32 (by decide) lkX7_closes_86 rfl dX7_closes_64 ?_
      refine jw_iload hX dX7_closes_67 0 rfl ?_
      obtain ⟨hb69, h⟩ := chk_some h
      refine jw_mzald hX hT 25 32 rfl rfl hb69 dX7_closes_69 ?_
      refine jw_if_eq (tgt := 91) hX dX7_closes_70 (by decide) (fun hc => ?_) (fun hc => ?_)
      · rw [if_pos hc] at h
        refine jw_sub [2, 3, 4, 1, 0] [(0, .ref a), (1, .int v1), (2, .int v2), (3, .int y6), (4, .int y16)] rfl ?_
        exact sX7_closes_J91 hX hT hGX hret hro h
      · rw [if_neg hc] at h
        refine jw_aload_n hX dX7_closes_73 rfl 2 rfl ?_
        refine jw_mgetA hX hT inX7_closes 33 (by decide) lkX7_closes_89 rfl dX7_closes_74 ?_
        refine jw_iload hX dX7_closes_77 0 rfl ?_
        obtain ⟨hb79, h⟩ := chk_some h
        refine jw_miald hX hT 26 33 rfl rfl hb79 dX7_closes_79 ?_
        refine jw_iload_n hX dX7_closes_80 rfl 4 rfl ?_
        refine jw_imul hX dX7_closes_81 ?_
        refine jw_bipush (v := (9 : Int32)) hX dX7_closes_82 (by decide) ?_
        refine jw_icmp_gt (tgt := 91) hX dX7_closes_84 (by decide) (fun hc => ?_) (fun hc => ?_)
        · rw [if_pos hc] at h
          refine jw_sub [2, 3, 4, 1, 0] [(0, .ref a), (1, .int v1), (2, .int v2), (3, .int y6), (4, .int y16)] rfl ?_
          exact sX7_closes_J91 hX hT hGX hret hro h
        · rw [if_neg hc] at h
          refine jw_iconst (v := (1 : Int32)) hX dX7_closes_87 (by decide) ?_
          refine jw_goto (tgt := 92) hX dX7_closes_88 (by decide) ?_
          refine jw_sub [2, 3, 4, 1, 0] [(0, .ref a), (1, .int v1), (2, .int v2), (3, .int y6), (4, .int y16)] rfl ?_
          exact sX7_closes_J92 hX hT hGX hret hro h
  · rw [if_pos hc] at h
    refine jw_iconst (v := (0 : Int32)) hX dX7_closes_23 (by decide) ?_
    refine jw_istore hX [(5, .int (0 : Int32)), (4, .int y16), (3, .int y6), (0, .ref a), (1, .int v1), (2, .int v2)] dX7_closes_24 (by decide) rfl ?_
    refine jw_sub [3, 4, 2, 0] [(0, .ref a), (1, .int v1), (3, .int y6), (5, .int (0 : Int32))] rfl ?_
    obtain ⟨wx26, hl26, h⟩ := bL1_some h
    refine sX7_closes_L26 hX hT hGX hret (o := wx26) (fun q0 e9 => ?_) n _ _ _ _ hl26
    cases e9
    exact hret _ _ _ _ _ (Nat.zero_le _) (Nat.zero_le _) dX7_closes_57 (hro _ (Option.some.inj h).symm)
set_option maxRecDepth 100000 in
set_option maxHeartbeats 4000000 in
theorem kX7_closes {l : Launch} {D : va_G} {tys : List (ClassId × FieldType)} {a : Nat} {ad : Nat → Nat} {cI cZ cO cJ : ClassId} {n : Nat} {w : MW} {v1 v2 : Int32} {w1 : MW} (hT : tys = jTy cI cZ cO cJ) (h : fX7_closes n w v1 v2 = some w1) : CC l jG0 D tys yX7_closes wsX7_closes rmX7_closes [.ref a, .int v1, .int v2] (mW a ad cI cZ w) (fun ov w2 => ov = none ∧ w2 = (mW a ad cI cZ w1)) := by
  refine CC_of (cc := cX7_closes) (maxL := 10) (ret := none) (by decide) rfl (Nat.le_of_ble_eq_true rfl) ?_
  intro X hD hL hT0 hGX hX rI rZ rV rA
  exact sX7_closes (post := fun ov w2 => ov = none ∧ w2 = (mW a ad cI cZ w1)) hX (hT0.trans hT) hGX (fun cells slots w9 pc lv => rV cells slots w9 pc lv rfl) (o := w1) (fun w9 e9 => by cases e9; exact ⟨rfl, rfl⟩) h
