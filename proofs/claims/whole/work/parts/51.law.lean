/-! the law's own cases: from each to the loop's end, over a relation REL of the landed program's pool and the reference's fields -/
theorem lc9 {c k K M : Nat} (h : c + K ≤ M) (hk : k ≤ K) : c + k ≤ M := Nat.le_trans (Nat.add_le_add_left hk c) h
theorem lc8 {c k K : Nat} (hk : k ≤ K) : c + k ≤ c + K := Nat.add_le_add_left hk c
theorem vp_updL0 (f : Nat → Int64) (x : Int64) : vp_updL f 0 x 0 = x := if_pos rfl
def lwL (i b x a o : Nat) : List (Nat × Value) := [(4, .int (nI i)), (0, .ref b), (1, .ref x), (2, .ref a), (3, .ref o)]

set_option maxRecDepth 100000 in
set_option maxHeartbeats 4000000 in
theorem lq_type {X : JX} {cells slots : Nat} {cI cZ cO cJ : ClassId} {gs : JP} {S : PS} {w : MW} {i b x a o L : Nat} {ad : Nat → Nat} {xs : Nat → Int32} {f : Nat → Int64} {p0 : Int32} {Q : Int32 → PS → Prop} {Qx : Nat → PS → Prop} {REL : PS → MW → Prop} (hX : jOK X cL_law 7 wsL_law RL room_1) (hT : jT X = jTy cI cZ cO cJ) (hGX : jG X (GL gs)) (hB : jScr X b L xs) (hv1 : xs (nI i + 1).toNatClampNeg = p0) (hi1 : vp_in (nI i + 1) L) (hok : okP S x 6 = true) (hc : cells + 10 ≤ 601024) (hs : slots + 1000 ≤ 7293034)
    (hC : CX (jL X) (GP gs) (jD X) (jT X) yX6_type wsX6_type rmX6_type [.ref x, .int p0] (pW cI cO S) (fun ov w2 => ∃ (r : Int32) (w9 : PS), Q r w9 ∧ ov = some (.int r) ∧ w2 = pW cI cO w9) (fun E w2 => ∃ (z : Nat) (w9 : PS), Qx z w9 ∧ E = exN z ∧ w2 = pW cI cO w9)) (hqx : ∀ (z : Nat) (w9 : PS), Qx z w9 → z = 0 ∨ z = 1)
    (hM1 : ∀ (r : Int32) (w9 : PS), Q r w9 → ∃ w1 : MW, fX7_type w p0 = some (r, w1) ∧ fX7_thrown w1 = some 0 ∧ REL w9 w1) (hM2 : ∀ (z : Nat) (w9 : PS), Qx z w9 → ∃ (r : Int32) (w1 : MW), fX7_type w p0 = some (r, w1) ∧ fX7_thrown w1 = some (if z = 0 then (1 : Int32) else if z = 1 then (2 : Int32) else 0) ∧ REL w9 w1)
    (kk : ∀ (f1 : Nat → Int64) (S1 : PS) (w1 : MW), REL S1 w1 → JW X (cells + 10) (slots + 1000) (mW a ad cI cZ w1 ++ (o, oE cJ f1) :: pW cI cO S1) 1307 (lwL i b x a o) []) : JW X cells slots (mW a ad cI cZ w ++ (o, oE cJ f) :: pW cI cO S) 136 (lwL i b x a o) [] := by
  refine jw_aload_n hX dL_law_136 rfl 2 rfl ?_
  refine jw_aload_n hX dL_law_137 rfl 1 rfl ?_
  refine jw_iload hX dL_law_138 0 rfl ?_
  refine jw_iconst (v := (1 : Int32)) hX dL_law_140 (by decide) ?_
  refine jw_iadd hX dL_law_141 ?_
  refine jw_sld hX hB hi1 dL_law_142 ?_
  rw [hv1]
  refine jw_aload_n hX dL_law_143 rfl 4 rfl ?_
  refine jw_lS (As := [.ref x, .int p0, .ref o]) (rest := []) hX (GL_ok gs) hGX 3 (kL_type hT hok hC hqx) gL_law_L_type rfl (by decide) ⟨by decide, by decide⟩ rfl (Nat.le_of_ble_eq_true rfl) dL_law_144 ⟨lc9 hc (by decide), lc9 hs (by decide)⟩ ?_
  rintro ov w' (⟨r, w9, hq, rfl, rfl⟩ | ⟨z, w9, hq, rfl, rfl⟩)
  · refine jw_widen (cells + 10) (slots + 1000) (lc8 (by decide)) (lc8 (by decide)) ?_
    obtain ⟨w1, hm, hth, hrel⟩ := hM1 r w9 hq
    show JW X _ _ _ _ _ [.int 0]
    refine jw_istore hX [(5, .int 0), (4, .int (nI i)), (0, .ref b), (1, .ref x), (2, .ref a), (3, .ref o)] dL_law_147 (by decide) rfl ?_
    refine jw_aload_n hX dL_law_149 rfl 4 rfl ?_
    refine jw_aload_n hX dL_law_150 rfl 2 rfl ?_
    refine jw_iload hX dL_law_151 1 rfl ?_
    refine jw_iconst (v := (1 : Int32)) hX dL_law_153 (by decide) ?_
    refine jw_iadd hX dL_law_154 ?_
    refine jw_sld hX hB hi1 dL_law_155 ?_
    rw [hv1]
    refine jw_lM (As := [.int p0]) (rest := []) hX 1 (kX7_type hT hm) gL_law_X7_type rfl hdX7_type ⟨by decide, by decide⟩ rfl (Nat.le_of_ble_eq_true rfl) dL_law_156 ⟨hc, hs⟩ ?_
    rintro ov w' ⟨rfl, rfl⟩
    show JW X _ _ _ _ _ [.int r]
    refine jw_istore hX [(6, .int r), (5, .int 0), (4, .int (nI i)), (0, .ref b), (1, .ref x), (2, .ref a), (3, .ref o)] dL_law_159 (by decide) rfl ?_
    refine jw_aload_n hX dL_law_161 rfl 5 rfl ?_
    refine jw_lM (As := []) (rest := []) hX 0 (kX7_thrown hT hth) gL_law_X7_thrown rfl hdX7_thrown ⟨by decide, by decide⟩ rfl (Nat.le_of_ble_eq_true rfl) dL_law_162 ⟨hc, hs⟩ ?_
    rintro ov w' ⟨rfl, rfl⟩
    show JW X _ _ _ _ _ [.int 0]
    refine jw_iload hX dL_law_165 1 rfl ?_
    refine jw_icmp_eq (tgt := 172) hX dL_law_167 (by decide) (fun _ => ?_) (fun h => absurd rfl h)
    refine jw_iload hX dL_law_172 1 rfl ?_
    refine jw_if_ne (tgt := 189) hX dL_law_174 (by decide) (fun h => absurd rfl h) (fun _ => ?_)
    refine jw_aload_n hX dL_law_177 rfl 6 rfl ?_
    refine jw_iconst (v := 0) hX dL_law_178 (by decide) ?_
    refine jw_olald hX hT dL_law_179 ?_
    rw [vp_updL0]
    refine jw_iload hX dL_law_180 0 rfl ?_
    refine jw_i2l (v := r.toInt64) hX dL_law_182 rfl ?_
    refine jw_lcmpeq (d := 0) hX dL_law_183 rfl ?_
    refine jw_if_eq (tgt := 189) hX dL_law_184 (by decide) (fun _ => ?_) (fun h => absurd rfl h)
    refine jw_goto (tgt := 1307) hX dL_law_189 (by decide) ?_
    refine jw_sub [2, 3, 4, 5, 6] (lwL i b x a o) rfl ?_
    exact kk _ _ _ hrel
  · refine jw_widen (cells + 10) (slots + 1000) (lc8 (by decide)) (lc8 (by decide)) ?_
    obtain ⟨r, w1, hm, hth, hrel⟩ := hM2 z w9 hq
    show JW X _ _ _ _ _ [.int (if z = 0 then (1 : Int32) else if z = 1 then (2 : Int32) else 0)]
    refine jw_istore hX [(5, .int (if z = 0 then (1 : Int32) else if z = 1 then (2 : Int32) else 0)), (4, .int (nI i)), (0, .ref b), (1, .ref x), (2, .ref a), (3, .ref o)] dL_law_147 (by decide) rfl ?_
    refine jw_aload_n hX dL_law_149 rfl 4 rfl ?_
    refine jw_aload_n hX dL_law_150 rfl 2 rfl ?_
    refine jw_iload hX dL_law_151 1 rfl ?_
    refine jw_iconst (v := (1 : Int32)) hX dL_law_153 (by decide) ?_
    refine jw_iadd hX dL_law_154 ?_
    refine jw_sld hX hB hi1 dL_law_155 ?_
    rw [hv1]
    refine jw_lM (As := [.int p0]) (rest := []) hX 1 (kX7_type hT hm) gL_law_X7_type rfl hdX7_type ⟨by decide, by decide⟩ rfl (Nat.le_of_ble_eq_true rfl) dL_law_156 ⟨hc, hs⟩ ?_
    rintro ov w' ⟨rfl, rfl⟩
    show JW X _ _ _ _ _ [.int r]
    refine jw_istore hX [(6, .int r), (5, .int (if z = 0 then (1 : Int32) else if z = 1 then (2 : Int32) else 0)), (4, .int (nI i)), (0, .ref b), (1, .ref x), (2, .ref a), (3, .ref o)] dL_law_159 (by decide) rfl ?_
    refine jw_aload_n hX dL_law_161 rfl 5 rfl ?_
    refine jw_lM (As := []) (rest := []) hX 0 (kX7_thrown hT hth) gL_law_X7_thrown rfl hdX7_thrown ⟨by decide, by decide⟩ rfl (Nat.le_of_ble_eq_true rfl) dL_law_162 ⟨hc, hs⟩ ?_
    rintro ov w' ⟨rfl, rfl⟩
    show JW X _ _ _ _ _ [.int (if z = 0 then (1 : Int32) else if z = 1 then (2 : Int32) else 0)]
    refine jw_iload hX dL_law_165 1 rfl ?_
    refine jw_icmp_eq (tgt := 172) hX dL_law_167 (by decide) (fun _ => ?_) (fun h => absurd rfl h)
    refine jw_iload hX dL_law_172 1 rfl ?_
    refine jw_if_ne (tgt := 189) hX dL_law_174 (by decide) (fun _ => ?_) (fun h => ?_)
    · refine jw_goto (tgt := 1307) hX dL_law_189 (by decide) ?_
      refine jw_sub [2, 3, 4, 5, 6] (lwL i b x a o) rfl ?_
      exact kk _ _ _ hrel
    · exfalso
      rcases hqx z w9 hq with rfl | rfl
      all_goals exact absurd h (by decide)
set_option maxRecDepth 100000 in
set_option maxHeartbeats 4000000 in
theorem lq_clear {X : JX} {cells slots : Nat} {cI cZ cO cJ : ClassId} {gs : JP} {S : PS} {w : MW} {i b x a o L : Nat} {ad : Nat → Nat} {xs : Nat → Int32} {f : Nat → Int64} {r : Int32} {S1 : PS} {w1 : MW} (hX : jOK X cL_law 7 wsL_law RL room_1) (hT : jT X = jTy cI cZ cO cJ) (hGX : jG X (GL gs)) (hB : jScr X b L xs) (hok : okP S x 6 = true) (hc : cells + 10 ≤ 601024) (hs : slots + 1000 ≤ 7293034)
    (hC : CC (jL X) (GP gs) (jD X) (jT X) yX6_clear wsX6_clear rmX6_clear [.ref x] (pW cI cO S) (fun ov w2 => ov = some (.int r) ∧ w2 = pW cI cO S1)) (hm : fX7_clear w = some (r, w1))
    (kk : JW X (cells + 10) (slots + 1000) (mW a ad cI cZ w1 ++ (o, oE cJ f) :: pW cI cO S1) 1307 (lwL i b x a o) []) : JW X cells slots (mW a ad cI cZ w ++ (o, oE cJ f) :: pW cI cO S) 192 (lwL i b x a o) [] := by
  refine jw_aload_n hX dL_law_192 rfl 2 rfl ?_
  have e0 : mW a ad cI cZ w ++ (o, oE cJ f) :: pW cI cO S = (mW a ad cI cZ w ++ [(o, oE cJ f)]) ++ pW cI cO S := by rw [List.append_assoc]; rfl
  rw [e0]
  refine jw_lV (As := []) (rest := []) hX (GP_ok gs) (gl_gp hGX) 0 hC gL_law_X6_clear rfl hdX6_clear ⟨by decide, by decide⟩ 6 rfl (by decide) hok rfl (Nat.le_of_ble_eq_true rfl) dL_law_193 ⟨lc9 hc (by decide), lc9 hs (by decide)⟩ ?_
  rintro ov w' ⟨rfl, rfl⟩
  refine jw_widen (cells + 10) (slots + 1000) (lc8 (by decide)) (lc8 (by decide)) ?_
  have e1 : (mW a ad cI cZ w ++ [(o, oE cJ f)]) ++ pW cI cO S1 = mW a ad cI cZ w ++ (o, oE cJ f) :: pW cI cO S1 := by rw [List.append_assoc]; rfl
  rw [e1]
  show JW X _ _ _ _ _ [.int r]
  refine jw_aload_n hX dL_law_196 rfl 3 rfl ?_
  refine jw_lM (As := []) (rest := [.int r]) hX 0 (kX7_clear hT hm) gL_law_X7_clear rfl hdX7_clear ⟨by decide, by decide⟩ rfl (Nat.le_of_ble_eq_true rfl) dL_law_197 ⟨hc, hs⟩ ?_
  rintro ov w' ⟨rfl, rfl⟩
  show JW X _ _ _ _ _ [.int r, .int r]
  exact jw_icmp_eq (tgt := 1307) hX dL_law_200 (by decide) (fun _ => kk) (fun h => absurd rfl h)
set_option maxRecDepth 100000 in
set_option maxHeartbeats 4000000 in
theorem lq_fault {X : JX} {cells slots : Nat} {cI cZ cO cJ : ClassId} {gs : JP} {S : PS} {w : MW} {i b x a o L : Nat} {ad : Nat → Nat} {xs : Nat → Int32} {f : Nat → Int64} {n7 : Nat} {r : Int32} {S1 : PS} {w1 : MW} (hX : jOK X cL_law 7 wsL_law RL room_1) (hT : jT X = jTy cI cZ cO cJ) (hGX : jG X (GL gs)) (hB : jScr X b L xs) (hok : okP S x 6 = true) (hc : cells + 10 ≤ 601024) (hs : slots + 1000 ≤ 7293034)
    (hC : CC (jL X) (GP gs) (jD X) (jT X) yX6_fault wsX6_fault rmX6_fault [.ref x] (pW cI cO S) (fun ov w2 => ov = some (.int r) ∧ w2 = pW cI cO S1)) (hm : fX7_fault n7 w = some (r, w1))
    (kk : JW X (cells + 10) (slots + 1000) (mW a ad cI cZ w1 ++ (o, oE cJ f) :: pW cI cO S1) 1307 (lwL i b x a o) []) : JW X cells slots (mW a ad cI cZ w ++ (o, oE cJ f) :: pW cI cO S) 205 (lwL i b x a o) [] := by
  refine jw_aload_n hX dL_law_205 rfl 2 rfl ?_
  have e0 : mW a ad cI cZ w ++ (o, oE cJ f) :: pW cI cO S = (mW a ad cI cZ w ++ [(o, oE cJ f)]) ++ pW cI cO S := by rw [List.append_assoc]; rfl
  rw [e0]
  refine jw_lV (As := []) (rest := []) hX (GP_ok gs) (gl_gp hGX) 0 hC gL_law_X6_fault rfl hdX6_fault ⟨by decide, by decide⟩ 6 rfl (by decide) hok rfl (Nat.le_of_ble_eq_true rfl) dL_law_206 ⟨lc9 hc (by decide), lc9 hs (by decide)⟩ ?_
  rintro ov w' ⟨rfl, rfl⟩
  refine jw_widen (cells + 10) (slots + 1000) (lc8 (by decide)) (lc8 (by decide)) ?_
  have e1 : (mW a ad cI cZ w ++ [(o, oE cJ f)]) ++ pW cI cO S1 = mW a ad cI cZ w ++ (o, oE cJ f) :: pW cI cO S1 := by rw [List.append_assoc]; rfl
  rw [e1]
  show JW X _ _ _ _ _ [.int r]
  refine jw_aload_n hX dL_law_209 rfl 3 rfl ?_
  refine jw_lM (As := []) (rest := [.int r]) hX 0 (kX7_fault hT hm) gL_law_X7_fault rfl hdX7_fault ⟨by decide, by decide⟩ rfl (Nat.le_of_ble_eq_true rfl) dL_law_210 ⟨hc, hs⟩ ?_
  rintro ov w' ⟨rfl, rfl⟩
  show JW X _ _ _ _ _ [.int r, .int r]
  exact jw_icmp_eq (tgt := 1307) hX dL_law_213 (by decide) (fun _ => kk) (fun h => absurd rfl h)
set_option maxRecDepth 100000 in
set_option maxHeartbeats 4000000 in
theorem lq_post {X : JX} {cells slots : Nat} {cI cZ cO cJ : ClassId} {gs : JP} {S : PS} {w : MW} {i b x a o L : Nat} {ad : Nat → Nat} {xs : Nat → Int32} {f : Nat → Int64} {n7 : Nat} {Q : Int32 → PS → Prop} {Qx : Nat → PS → Prop} {REL : PS → MW → Prop} (hX : jOK X cL_law 7 wsL_law RL room_1) (hT : jT X = jTy cI cZ cO cJ) (hGX : jG X (GL gs)) (hB : jScr X b L xs) (hok : okP S x 6 = true) (hc : cells + 10 ≤ 601024) (hs : slots + 1000 ≤ 7293034)
    (hC : CX (jL X) (GP gs) (jD X) (jT X) yX6_post wsX6_post rmX6_post [.ref x] (pW cI cO S) (fun ov w2 => ∃ (r : Int32) (w9 : PS), Q r w9 ∧ ov = some (.int r) ∧ w2 = pW cI cO w9) (fun E w2 => ∃ (z : Nat) (w9 : PS), Qx z w9 ∧ E = exN z ∧ w2 = pW cI cO w9)) (hqx : ∀ (z : Nat) (w9 : PS), Qx z w9 → z = 1)
    (hM1 : ∀ (r : Int32) (w9 : PS), Q r w9 → ∃ w1 : MW, fX7_post n7 w = some (r, w1) ∧ fX7_thrown w1 = some 0 ∧ REL w9 w1) (hM2 : ∀ (z : Nat) (w9 : PS), Qx z w9 → ∃ (r : Int32) (w1 : MW), fX7_post n7 w = some (r, w1) ∧ fX7_thrown w1 = some (if z = 1 then (1 : Int32) else 0) ∧ REL w9 w1)
    (kk : ∀ (f1 : Nat → Int64) (S1 : PS) (w1 : MW), REL S1 w1 → JW X (cells + 10) (slots + 1000) (mW a ad cI cZ w1 ++ (o, oE cJ f1) :: pW cI cO S1) 1307 (lwL i b x a o) []) : JW X cells slots (mW a ad cI cZ w ++ (o, oE cJ f) :: pW cI cO S) 218 (lwL i b x a o) [] := by
  refine jw_aload_n hX dL_law_218 rfl 2 rfl ?_
  refine jw_aload_n hX dL_law_219 rfl 4 rfl ?_
  refine jw_lS (As := [.ref x, .ref o]) (rest := []) hX (GL_ok gs) hGX 2 (kL_post hT hok hC hqx) gL_law_L_post rfl (by decide) ⟨by decide, by decide⟩ rfl (Nat.le_of_ble_eq_true rfl) dL_law_220 ⟨lc9 hc (by decide), lc9 hs (by decide)⟩ ?_
  rintro ov w' (⟨r, w9, hq, rfl, rfl⟩ | ⟨z, w9, hq, rfl, rfl⟩)
  · refine jw_widen (cells + 10) (slots + 1000) (lc8 (by decide)) (lc8 (by decide)) ?_
    obtain ⟨w1, hm, hth, hrel⟩ := hM1 r w9 hq
    show JW X _ _ _ _ _ [.int 0]
    refine jw_istore hX [(5, .int 0), (4, .int (nI i)), (0, .ref b), (1, .ref x), (2, .ref a), (3, .ref o)] dL_law_223 (by decide) rfl ?_
    refine jw_aload_n hX dL_law_225 rfl 4 rfl ?_
    refine jw_lM (As := []) (rest := []) hX 0 (kX7_post hT hm) gL_law_X7_post rfl hdX7_post ⟨by decide, by decide⟩ rfl (Nat.le_of_ble_eq_true rfl) dL_law_226 ⟨hc, hs⟩ ?_
    rintro ov w' ⟨rfl, rfl⟩
    show JW X _ _ _ _ _ [.int r]
    refine jw_istore hX [(6, .int r), (5, .int 0), (4, .int (nI i)), (0, .ref b), (1, .ref x), (2, .ref a), (3, .ref o)] dL_law_229 (by decide) rfl ?_
    refine jw_aload_n hX dL_law_231 rfl 5 rfl ?_
    refine jw_lM (As := []) (rest := []) hX 0 (kX7_thrown hT hth) gL_law_X7_thrown rfl hdX7_thrown ⟨by decide, by decide⟩ rfl (Nat.le_of_ble_eq_true rfl) dL_law_232 ⟨hc, hs⟩ ?_
    rintro ov w' ⟨rfl, rfl⟩
    show JW X _ _ _ _ _ [.int 0]
    refine jw_iload hX dL_law_235 1 rfl ?_
    refine jw_icmp_eq (tgt := 242) hX dL_law_237 (by decide) (fun _ => ?_) (fun h => absurd rfl h)
    refine jw_iload hX dL_law_242 1 rfl ?_
    refine jw_if_ne (tgt := 259) hX dL_law_244 (by decide) (fun h => absurd rfl h) (fun _ => ?_)
    refine jw_aload_n hX dL_law_247 rfl 6 rfl ?_
    refine jw_iconst (v := 0) hX dL_law_248 (by decide) ?_
    refine jw_olald hX hT dL_law_249 ?_
    rw [vp_updL0]
    refine jw_iload hX dL_law_250 0 rfl ?_
    refine jw_i2l (v := r.toInt64) hX dL_law_252 rfl ?_
    refine jw_lcmpeq (d := 0) hX dL_law_253 rfl ?_
    refine jw_if_eq (tgt := 259) hX dL_law_254 (by decide) (fun _ => ?_) (fun h => absurd rfl h)
    refine jw_goto (tgt := 1307) hX dL_law_259 (by decide) ?_
    refine jw_sub [2, 3, 4, 5, 6] (lwL i b x a o) rfl ?_
    exact kk _ _ _ hrel
  · refine jw_widen (cells + 10) (slots + 1000) (lc8 (by decide)) (lc8 (by decide)) ?_
    obtain ⟨r, w1, hm, hth, hrel⟩ := hM2 z w9 hq
    show JW X _ _ _ _ _ [.int (if z = 1 then (1 : Int32) else 0)]
    refine jw_istore hX [(5, .int (if z = 1 then (1 : Int32) else 0)), (4, .int (nI i)), (0, .ref b), (1, .ref x), (2, .ref a), (3, .ref o)] dL_law_223 (by decide) rfl ?_
    refine jw_aload_n hX dL_law_225 rfl 4 rfl ?_
    refine jw_lM (As := []) (rest := []) hX 0 (kX7_post hT hm) gL_law_X7_post rfl hdX7_post ⟨by decide, by decide⟩ rfl (Nat.le_of_ble_eq_true rfl) dL_law_226 ⟨hc, hs⟩ ?_
    rintro ov w' ⟨rfl, rfl⟩
    show JW X _ _ _ _ _ [.int r]
    refine jw_istore hX [(6, .int r), (5, .int (if z = 1 then (1 : Int32) else 0)), (4, .int (nI i)), (0, .ref b), (1, .ref x), (2, .ref a), (3, .ref o)] dL_law_229 (by decide) rfl ?_
    refine jw_aload_n hX dL_law_231 rfl 5 rfl ?_
    refine jw_lM (As := []) (rest := []) hX 0 (kX7_thrown hT hth) gL_law_X7_thrown rfl hdX7_thrown ⟨by decide, by decide⟩ rfl (Nat.le_of_ble_eq_true rfl) dL_law_232 ⟨hc, hs⟩ ?_
    rintro ov w' ⟨rfl, rfl⟩
    show JW X _ _ _ _ _ [.int (if z = 1 then (1 : Int32) else 0)]
    refine jw_iload hX dL_law_235 1 rfl ?_
    refine jw_icmp_eq (tgt := 242) hX dL_law_237 (by decide) (fun _ => ?_) (fun h => absurd rfl h)
    refine jw_iload hX dL_law_242 1 rfl ?_
    refine jw_if_ne (tgt := 259) hX dL_law_244 (by decide) (fun _ => ?_) (fun h => ?_)
    · refine jw_goto (tgt := 1307) hX dL_law_259 (by decide) ?_
      refine jw_sub [2, 3, 4, 5, 6] (lwL i b x a o) rfl ?_
      exact kk _ _ _ hrel
    · exfalso
      rcases hqx z w9 hq with rfl
      all_goals exact absurd h (by decide)
set_option maxRecDepth 100000 in
set_option maxHeartbeats 4000000 in
theorem lq_write {X : JX} {cells slots : Nat} {cI cZ cO cJ : ClassId} {gs : JP} {S : PS} {w : MW} {i b x a o L : Nat} {ad : Nat → Nat} {xs : Nat → Int32} {f : Nat → Int64} {p0 : Int32} {n7 : Nat} {Q : Int32 → PS → Prop} {Qx : Nat → PS → Prop} {REL : PS → MW → Prop} (hX : jOK X cL_law 7 wsL_law RL room_1) (hT : jT X = jTy cI cZ cO cJ) (hGX : jG X (GL gs)) (hB : jScr X b L xs) (hv1 : xs (nI i + 1).toNatClampNeg = p0) (hi1 : vp_in (nI i + 1) L) (hok : okP S x 6 = true) (hc : cells + 10 ≤ 601024) (hs : slots + 1000 ≤ 7293034)
    (hC : CX (jL X) (GP gs) (jD X) (jT X) yX6_write wsX6_write rmX6_write [.ref x, .int p0] (pW cI cO S) (fun ov w2 => ∃ (r : Int32) (w9 : PS), Q r w9 ∧ ov = some (.int r) ∧ w2 = pW cI cO w9) (fun E w2 => ∃ (z : Nat) (w9 : PS), Qx z w9 ∧ E = exN z ∧ w2 = pW cI cO w9)) (hqx : ∀ (z : Nat) (w9 : PS), Qx z w9 → z = 2 ∨ z = 1)
    (hM1 : ∀ (r : Int32) (w9 : PS), Q r w9 → ∃ w1 : MW, fX7_write n7 w p0 = some (r, w1) ∧ fX7_thrown w1 = some 0 ∧ REL w9 w1) (hM2 : ∀ (z : Nat) (w9 : PS), Qx z w9 → ∃ (r : Int32) (w1 : MW), fX7_write n7 w p0 = some (r, w1) ∧ fX7_thrown w1 = some (if z = 2 then (1 : Int32) else if z = 1 then (2 : Int32) else 0) ∧ REL w9 w1)
    (kk : ∀ (f1 : Nat → Int64) (S1 : PS) (w1 : MW), REL S1 w1 → JW X (cells + 10) (slots + 1000) (mW a ad cI cZ w1 ++ (o, oE cJ f1) :: pW cI cO S1) 1307 (lwL i b x a o) []) : JW X cells slots (mW a ad cI cZ w ++ (o, oE cJ f) :: pW cI cO S) 262 (lwL i b x a o) [] := by
  refine jw_aload_n hX dL_law_262 rfl 2 rfl ?_
  refine jw_aload_n hX dL_law_263 rfl 1 rfl ?_
  refine jw_iload hX dL_law_264 0 rfl ?_
  refine jw_iconst (v := (1 : Int32)) hX dL_law_266 (by decide) ?_
  refine jw_iadd hX dL_law_267 ?_
  refine jw_sld hX hB hi1 dL_law_268 ?_
  rw [hv1]
  refine jw_aload_n hX dL_law_269 rfl 4 rfl ?_
  refine jw_lS (As := [.ref x, .int p0, .ref o]) (rest := []) hX (GL_ok gs) hGX 3 (kL_write hT hok hC hqx) gL_law_L_write rfl (by decide) ⟨by decide, by decide⟩ rfl (Nat.le_of_ble_eq_true rfl) dL_law_270 ⟨lc9 hc (by decide), lc9 hs (by decide)⟩ ?_
  rintro ov w' (⟨r, w9, hq, rfl, rfl⟩ | ⟨z, w9, hq, rfl, rfl⟩)
  · refine jw_widen (cells + 10) (slots + 1000) (lc8 (by decide)) (lc8 (by decide)) ?_
    obtain ⟨w1, hm, hth, hrel⟩ := hM1 r w9 hq
    show JW X _ _ _ _ _ [.int 0]
    refine jw_istore hX [(5, .int 0), (4, .int (nI i)), (0, .ref b), (1, .ref x), (2, .ref a), (3, .ref o)] dL_law_273 (by decide) rfl ?_
    refine jw_aload_n hX dL_law_275 rfl 4 rfl ?_
    refine jw_aload_n hX dL_law_276 rfl 2 rfl ?_
    refine jw_iload hX dL_law_277 1 rfl ?_
    refine jw_iconst (v := (1 : Int32)) hX dL_law_279 (by decide) ?_
    refine jw_iadd hX dL_law_280 ?_
    refine jw_sld hX hB hi1 dL_law_281 ?_
    rw [hv1]
    refine jw_lM (As := [.int p0]) (rest := []) hX 1 (kX7_write hT hm) gL_law_X7_write rfl hdX7_write ⟨by decide, by decide⟩ rfl (Nat.le_of_ble_eq_true rfl) dL_law_282 ⟨hc, hs⟩ ?_
    rintro ov w' ⟨rfl, rfl⟩
    show JW X _ _ _ _ _ [.int r]
    refine jw_istore hX [(6, .int r), (5, .int 0), (4, .int (nI i)), (0, .ref b), (1, .ref x), (2, .ref a), (3, .ref o)] dL_law_285 (by decide) rfl ?_
    refine jw_aload_n hX dL_law_287 rfl 5 rfl ?_
    refine jw_lM (As := []) (rest := []) hX 0 (kX7_thrown hT hth) gL_law_X7_thrown rfl hdX7_thrown ⟨by decide, by decide⟩ rfl (Nat.le_of_ble_eq_true rfl) dL_law_288 ⟨hc, hs⟩ ?_
    rintro ov w' ⟨rfl, rfl⟩
    show JW X _ _ _ _ _ [.int 0]
    refine jw_iload hX dL_law_291 1 rfl ?_
    refine jw_icmp_eq (tgt := 298) hX dL_law_293 (by decide) (fun _ => ?_) (fun h => absurd rfl h)
    refine jw_iload hX dL_law_298 1 rfl ?_
    refine jw_if_ne (tgt := 322) hX dL_law_300 (by decide) (fun h => absurd rfl h) (fun _ => ?_)
    refine jw_aload_n hX dL_law_303 rfl 6 rfl ?_
    refine jw_iconst (v := 0) hX dL_law_304 (by decide) ?_
    refine jw_olald hX hT dL_law_305 ?_
    rw [vp_updL0]
    refine jw_iload hX dL_law_306 0 rfl ?_
    refine jw_if_eq (tgt := 315) hX dL_law_308 (by decide) (fun h0 => ?_) (fun h0 => ?_)
    · have hv9 : v01 r = 0 := if_pos h0
      refine jw_lconst (v := 0) hX dL_law_315 (by decide) ?_
      refine jw_lcmpeq (d := 0) hX dL_law_316 hv9 ?_
      refine jw_if_eq (tgt := 322) hX dL_law_317 (by decide) (fun _ => ?_) (fun h => absurd rfl h)
      refine jw_goto (tgt := 1307) hX dL_law_322 (by decide) ?_
      refine jw_sub [2, 3, 4, 5, 6] (lwL i b x a o) rfl ?_
      exact kk _ _ _ hrel
    · have hv9 : v01 r = 1 := if_neg h0
      refine jw_lconst (v := 1) hX dL_law_311 (by decide) ?_
      refine jw_goto (tgt := 316) hX dL_law_312 (by decide) ?_
      refine jw_lcmpeq (d := 0) hX dL_law_316 hv9 ?_
      refine jw_if_eq (tgt := 322) hX dL_law_317 (by decide) (fun _ => ?_) (fun h => absurd rfl h)
      refine jw_goto (tgt := 1307) hX dL_law_322 (by decide) ?_
      refine jw_sub [2, 3, 4, 5, 6] (lwL i b x a o) rfl ?_
      exact kk _ _ _ hrel
  · refine jw_widen (cells + 10) (slots + 1000) (lc8 (by decide)) (lc8 (by decide)) ?_
    obtain ⟨r, w1, hm, hth, hrel⟩ := hM2 z w9 hq
    show JW X _ _ _ _ _ [.int (if z = 2 then (1 : Int32) else if z = 1 then (2 : Int32) else 0)]
    refine jw_istore hX [(5, .int (if z = 2 then (1 : Int32) else if z = 1 then (2 : Int32) else 0)), (4, .int (nI i)), (0, .ref b), (1, .ref x), (2, .ref a), (3, .ref o)] dL_law_273 (by decide) rfl ?_
    refine jw_aload_n hX dL_law_275 rfl 4 rfl ?_
    refine jw_aload_n hX dL_law_276 rfl 2 rfl ?_
    refine jw_iload hX dL_law_277 1 rfl ?_
    refine jw_iconst (v := (1 : Int32)) hX dL_law_279 (by decide) ?_
    refine jw_iadd hX dL_law_280 ?_
    refine jw_sld hX hB hi1 dL_law_281 ?_
    rw [hv1]
    refine jw_lM (As := [.int p0]) (rest := []) hX 1 (kX7_write hT hm) gL_law_X7_write rfl hdX7_write ⟨by decide, by decide⟩ rfl (Nat.le_of_ble_eq_true rfl) dL_law_282 ⟨hc, hs⟩ ?_
    rintro ov w' ⟨rfl, rfl⟩
    show JW X _ _ _ _ _ [.int r]
    refine jw_istore hX [(6, .int r), (5, .int (if z = 2 then (1 : Int32) else if z = 1 then (2 : Int32) else 0)), (4, .int (nI i)), (0, .ref b), (1, .ref x), (2, .ref a), (3, .ref o)] dL_law_285 (by decide) rfl ?_
    refine jw_aload_n hX dL_law_287 rfl 5 rfl ?_
    refine jw_lM (As := []) (rest := []) hX 0 (kX7_thrown hT hth) gL_law_X7_thrown rfl hdX7_thrown ⟨by decide, by decide⟩ rfl (Nat.le_of_ble_eq_true rfl) dL_law_288 ⟨hc, hs⟩ ?_
    rintro ov w' ⟨rfl, rfl⟩
    show JW X _ _ _ _ _ [.int (if z = 2 then (1 : Int32) else if z = 1 then (2 : Int32) else 0)]
    refine jw_iload hX dL_law_291 1 rfl ?_
    refine jw_icmp_eq (tgt := 298) hX dL_law_293 (by decide) (fun _ => ?_) (fun h => absurd rfl h)
    refine jw_iload hX dL_law_298 1 rfl ?_
    refine jw_if_ne (tgt := 322) hX dL_law_300 (by decide) (fun _ => ?_) (fun h => ?_)
    · refine jw_goto (tgt := 1307) hX dL_law_322 (by decide) ?_
      refine jw_sub [2, 3, 4, 5, 6] (lwL i b x a o) rfl ?_
      exact kk _ _ _ hrel
    · exfalso
      rcases hqx z w9 hq with rfl | rfl
      all_goals exact absurd h (by decide)
set_option maxRecDepth 100000 in
set_option maxHeartbeats 4000000 in
theorem lq_strike {X : JX} {cells slots : Nat} {cI cZ cO cJ : ClassId} {gs : JP} {S : PS} {w : MW} {i b x a o L : Nat} {ad : Nat → Nat} {xs : Nat → Int32} {f : Nat → Int64} {p0 : Int32} {n7 : Nat} {Q : Int32 → PS → Prop} {Qx : Nat → PS → Prop} {REL : PS → MW → Prop} (hX : jOK X cL_law 7 wsL_law RL room_1) (hT : jT X = jTy cI cZ cO cJ) (hGX : jG X (GL gs)) (hB : jScr X b L xs) (hv1 : xs (nI i + 1).toNatClampNeg = p0) (hi1 : vp_in (nI i + 1) L) (hok : okP S x 6 = true) (hc : cells + 10 ≤ 601024) (hs : slots + 1000 ≤ 7293034)
    (hC : CX (jL X) (GP gs) (jD X) (jT X) yX6_strike wsX6_strike rmX6_strike [.ref x, .int p0] (pW cI cO S) (fun ov w2 => ∃ (r : Int32) (w9 : PS), Q r w9 ∧ ov = some (.int r) ∧ w2 = pW cI cO w9) (fun E w2 => ∃ (z : Nat) (w9 : PS), Qx z w9 ∧ E = exN z ∧ w2 = pW cI cO w9)) (hqx : ∀ (z : Nat) (w9 : PS), Qx z w9 → z = 2 ∨ z = 1)
    (hM1 : ∀ (r : Int32) (w9 : PS), Q r w9 → ∃ w1 : MW, fX7_strike n7 w p0 = some (r, w1) ∧ fX7_thrown w1 = some 0 ∧ REL w9 w1) (hM2 : ∀ (z : Nat) (w9 : PS), Qx z w9 → ∃ (r : Int32) (w1 : MW), fX7_strike n7 w p0 = some (r, w1) ∧ fX7_thrown w1 = some (if z = 2 then (1 : Int32) else if z = 1 then (2 : Int32) else 0) ∧ REL w9 w1)
    (kk : ∀ (f1 : Nat → Int64) (S1 : PS) (w1 : MW), REL S1 w1 → JW X (cells + 10) (slots + 1000) (mW a ad cI cZ w1 ++ (o, oE cJ f1) :: pW cI cO S1) 1307 (lwL i b x a o) []) : JW X cells slots (mW a ad cI cZ w ++ (o, oE cJ f) :: pW cI cO S) 325 (lwL i b x a o) [] := by
  refine jw_aload_n hX dL_law_325 rfl 2 rfl ?_
  refine jw_aload_n hX dL_law_326 rfl 1 rfl ?_
  refine jw_iload hX dL_law_327 0 rfl ?_
  refine jw_iconst (v := (1 : Int32)) hX dL_law_329 (by decide) ?_
  refine jw_iadd hX dL_law_330 ?_
  refine jw_sld hX hB hi1 dL_law_331 ?_
  rw [hv1]
  refine jw_aload_n hX dL_law_332 rfl 4 rfl ?_
  refine jw_lS (As := [.ref x, .int p0, .ref o]) (rest := []) hX (GL_ok gs) hGX 3 (kL_strike hT hok hC hqx) gL_law_L_strike rfl (by decide) ⟨by decide, by decide⟩ rfl (Nat.le_of_ble_eq_true rfl) dL_law_333 ⟨lc9 hc (by decide), lc9 hs (by decide)⟩ ?_
  rintro ov w' (⟨r, w9, hq, rfl, rfl⟩ | ⟨z, w9, hq, rfl, rfl⟩)
  · refine jw_widen (cells + 10) (slots + 1000) (lc8 (by decide)) (lc8 (by decide)) ?_
    obtain ⟨w1, hm, hth, hrel⟩ := hM1 r w9 hq
    show JW X _ _ _ _ _ [.int 0]
    refine jw_istore hX [(5, .int 0), (4, .int (nI i)), (0, .ref b), (1, .ref x), (2, .ref a), (3, .ref o)] dL_law_336 (by decide) rfl ?_
    refine jw_aload_n hX dL_law_338 rfl 4 rfl ?_
    refine jw_aload_n hX dL_law_339 rfl 2 rfl ?_
    refine jw_iload hX dL_law_340 1 rfl ?_
    refine jw_iconst (v := (1 : Int32)) hX dL_law_342 (by decide) ?_
    refine jw_iadd hX dL_law_343 ?_
    refine jw_sld hX hB hi1 dL_law_344 ?_
    rw [hv1]
    refine jw_lM (As := [.int p0]) (rest := []) hX 1 (kX7_strike hT hm) gL_law_X7_strike rfl hdX7_strike ⟨by decide, by decide⟩ rfl (Nat.le_of_ble_eq_true rfl) dL_law_345 ⟨hc, hs⟩ ?_
    rintro ov w' ⟨rfl, rfl⟩
    show JW X _ _ _ _ _ [.int r]
    refine jw_istore hX [(6, .int r), (5, .int 0), (4, .int (nI i)), (0, .ref b), (1, .ref x), (2, .ref a), (3, .ref o)] dL_law_348 (by decide) rfl ?_
    refine jw_aload_n hX dL_law_350 rfl 5 rfl ?_
    refine jw_lM (As := []) (rest := []) hX 0 (kX7_thrown hT hth) gL_law_X7_thrown rfl hdX7_thrown ⟨by decide, by decide⟩ rfl (Nat.le_of_ble_eq_true rfl) dL_law_351 ⟨hc, hs⟩ ?_
    rintro ov w' ⟨rfl, rfl⟩
    show JW X _ _ _ _ _ [.int 0]
    refine jw_iload hX dL_law_354 1 rfl ?_
    refine jw_icmp_eq (tgt := 361) hX dL_law_356 (by decide) (fun _ => ?_) (fun h => absurd rfl h)
    refine jw_iload hX dL_law_361 1 rfl ?_
    refine jw_if_ne (tgt := 378) hX dL_law_363 (by decide) (fun h => absurd rfl h) (fun _ => ?_)
    refine jw_aload_n hX dL_law_366 rfl 6 rfl ?_
    refine jw_iconst (v := 0) hX dL_law_367 (by decide) ?_
    refine jw_olald hX hT dL_law_368 ?_
    rw [vp_updL0]
    refine jw_iload hX dL_law_369 0 rfl ?_
    refine jw_i2l (v := r.toInt64) hX dL_law_371 rfl ?_
    refine jw_lcmpeq (d := 0) hX dL_law_372 rfl ?_
    refine jw_if_eq (tgt := 378) hX dL_law_373 (by decide) (fun _ => ?_) (fun h => absurd rfl h)
    refine jw_goto (tgt := 1307) hX dL_law_378 (by decide) ?_
    refine jw_sub [2, 3, 4, 5, 6] (lwL i b x a o) rfl ?_
    exact kk _ _ _ hrel
  · refine jw_widen (cells + 10) (slots + 1000) (lc8 (by decide)) (lc8 (by decide)) ?_
    obtain ⟨r, w1, hm, hth, hrel⟩ := hM2 z w9 hq
    show JW X _ _ _ _ _ [.int (if z = 2 then (1 : Int32) else if z = 1 then (2 : Int32) else 0)]
    refine jw_istore hX [(5, .int (if z = 2 then (1 : Int32) else if z = 1 then (2 : Int32) else 0)), (4, .int (nI i)), (0, .ref b), (1, .ref x), (2, .ref a), (3, .ref o)] dL_law_336 (by decide) rfl ?_
    refine jw_aload_n hX dL_law_338 rfl 4 rfl ?_
    refine jw_aload_n hX dL_law_339 rfl 2 rfl ?_
    refine jw_iload hX dL_law_340 1 rfl ?_
    refine jw_iconst (v := (1 : Int32)) hX dL_law_342 (by decide) ?_
    refine jw_iadd hX dL_law_343 ?_
    refine jw_sld hX hB hi1 dL_law_344 ?_
    rw [hv1]
    refine jw_lM (As := [.int p0]) (rest := []) hX 1 (kX7_strike hT hm) gL_law_X7_strike rfl hdX7_strike ⟨by decide, by decide⟩ rfl (Nat.le_of_ble_eq_true rfl) dL_law_345 ⟨hc, hs⟩ ?_
    rintro ov w' ⟨rfl, rfl⟩
    show JW X _ _ _ _ _ [.int r]
    refine jw_istore hX [(6, .int r), (5, .int (if z = 2 then (1 : Int32) else if z = 1 then (2 : Int32) else 0)), (4, .int (nI i)), (0, .ref b), (1, .ref x), (2, .ref a), (3, .ref o)] dL_law_348 (by decide) rfl ?_
    refine jw_aload_n hX dL_law_350 rfl 5 rfl ?_
    refine jw_lM (As := []) (rest := []) hX 0 (kX7_thrown hT hth) gL_law_X7_thrown rfl hdX7_thrown ⟨by decide, by decide⟩ rfl (Nat.le_of_ble_eq_true rfl) dL_law_351 ⟨hc, hs⟩ ?_
    rintro ov w' ⟨rfl, rfl⟩
    show JW X _ _ _ _ _ [.int (if z = 2 then (1 : Int32) else if z = 1 then (2 : Int32) else 0)]
    refine jw_iload hX dL_law_354 1 rfl ?_
    refine jw_icmp_eq (tgt := 361) hX dL_law_356 (by decide) (fun _ => ?_) (fun h => absurd rfl h)
    refine jw_iload hX dL_law_361 1 rfl ?_
    refine jw_if_ne (tgt := 378) hX dL_law_363 (by decide) (fun _ => ?_) (fun h => ?_)
    · refine jw_goto (tgt := 1307) hX dL_law_378 (by decide) ?_
      refine jw_sub [2, 3, 4, 5, 6] (lwL i b x a o) rfl ?_
      exact kk _ _ _ hrel
    · exfalso
      rcases hqx z w9 hq with rfl | rfl
      all_goals exact absurd h (by decide)
set_option maxRecDepth 100000 in
set_option maxHeartbeats 4000000 in
theorem lq_rule {X : JX} {cells slots : Nat} {cI cZ cO cJ : ClassId} {gs : JP} {S : PS} {w : MW} {i b x a o L : Nat} {ad : Nat → Nat} {xs : Nat → Int32} {f : Nat → Int64} {p0 p1 p2 p3 : Int32} {Q : Int32 → PS → Prop} {Qx : Nat → PS → Prop} {REL : PS → MW → Prop} (hX : jOK X cL_law 7 wsL_law RL room_1) (hT : jT X = jTy cI cZ cO cJ) (hGX : jG X (GL gs)) (hB : jScr X b L xs) (hv1 : xs (nI i + 1).toNatClampNeg = p0) (hi1 : vp_in (nI i + 1) L) (hv2 : xs (nI i + 2).toNatClampNeg = p1) (hi2 : vp_in (nI i + 2) L) (hv3 : xs (nI i + 3).toNatClampNeg = p2) (hi3 : vp_in (nI i + 3) L) (hv4 : xs (nI i + 4).toNatClampNeg = p3) (hi4 : vp_in (nI i + 4) L) (hok : okP S x 6 = true) (hc : cells + 10 ≤ 601024) (hs : slots + 1000 ≤ 7293034)
    (hC : CX (jL X) (GP gs) (jD X) (jT X) yX6_rule wsX6_rule rmX6_rule [.ref x, .int p0, .int p1, .int p2, .int p3] (pW cI cO S) (fun ov w2 => ∃ (r : Int32) (w9 : PS), Q r w9 ∧ ov = some (.int r) ∧ w2 = pW cI cO w9) (fun E w2 => ∃ (z : Nat) (w9 : PS), Qx z w9 ∧ E = exN z ∧ w2 = pW cI cO w9)) (hqx : ∀ (z : Nat) (w9 : PS), Qx z w9 → z = 0 ∨ z = 1)
    (hM1 : ∀ (r : Int32) (w9 : PS), Q r w9 → ∃ w1 : MW, fX7_rule w p0 p1 p2 p3 = some (r, w1) ∧ fX7_thrown w1 = some 0 ∧ REL w9 w1) (hM2 : ∀ (z : Nat) (w9 : PS), Qx z w9 → ∃ (r : Int32) (w1 : MW), fX7_rule w p0 p1 p2 p3 = some (r, w1) ∧ fX7_thrown w1 = some (if z = 0 then (1 : Int32) else if z = 1 then (2 : Int32) else 0) ∧ REL w9 w1)
    (kk : ∀ (f1 : Nat → Int64) (S1 : PS) (w1 : MW), REL S1 w1 → JW X (cells + 10) (slots + 1000) (mW a ad cI cZ w1 ++ (o, oE cJ f1) :: pW cI cO S1) 1307 (lwL i b x a o) []) : JW X cells slots (mW a ad cI cZ w ++ (o, oE cJ f) :: pW cI cO S) 381 (lwL i b x a o) [] := by
  refine jw_aload_n hX dL_law_381 rfl 2 rfl ?_
  refine jw_aload_n hX dL_law_382 rfl 1 rfl ?_
  refine jw_iload hX dL_law_383 0 rfl ?_
  refine jw_iconst (v := (1 : Int32)) hX dL_law_385 (by decide) ?_
  refine jw_iadd hX dL_law_386 ?_
  refine jw_sld hX hB hi1 dL_law_387 ?_
  rw [hv1]
  refine jw_aload_n hX dL_law_388 rfl 1 rfl ?_
  refine jw_iload hX dL_law_389 0 rfl ?_
  refine jw_iconst (v := (2 : Int32)) hX dL_law_391 (by decide) ?_
  refine jw_iadd hX dL_law_392 ?_
  refine jw_sld hX hB hi2 dL_law_393 ?_
  rw [hv2]
  refine jw_aload_n hX dL_law_394 rfl 1 rfl ?_
  refine jw_iload hX dL_law_395 0 rfl ?_
  refine jw_iconst (v := (3 : Int32)) hX dL_law_397 (by decide) ?_
  refine jw_iadd hX dL_law_398 ?_
  refine jw_sld hX hB hi3 dL_law_399 ?_
  rw [hv3]
  refine jw_aload_n hX dL_law_400 rfl 1 rfl ?_
  refine jw_iload hX dL_law_401 0 rfl ?_
  refine jw_iconst (v := (4 : Int32)) hX dL_law_403 (by decide) ?_
  refine jw_iadd hX dL_law_404 ?_
  refine jw_sld hX hB hi4 dL_law_405 ?_
  rw [hv4]
  refine jw_aload_n hX dL_law_406 rfl 4 rfl ?_
  refine jw_lS (As := [.ref x, .int p0, .int p1, .int p2, .int p3, .ref o]) (rest := []) hX (GL_ok gs) hGX 6 (kL_rule hT hok hC hqx) gL_law_L_rule rfl (by decide) ⟨by decide, by decide⟩ rfl (Nat.le_of_ble_eq_true rfl) dL_law_407 ⟨lc9 hc (by decide), lc9 hs (by decide)⟩ ?_
  rintro ov w' (⟨r, w9, hq, rfl, rfl⟩ | ⟨z, w9, hq, rfl, rfl⟩)
  · refine jw_widen (cells + 10) (slots + 1000) (lc8 (by decide)) (lc8 (by decide)) ?_
    obtain ⟨w1, hm, hth, hrel⟩ := hM1 r w9 hq
    show JW X _ _ _ _ _ [.int 0]
    refine jw_istore hX [(5, .int 0), (4, .int (nI i)), (0, .ref b), (1, .ref x), (2, .ref a), (3, .ref o)] dL_law_410 (by decide) rfl ?_
    refine jw_aload_n hX dL_law_412 rfl 4 rfl ?_
    refine jw_aload_n hX dL_law_413 rfl 2 rfl ?_
    refine jw_iload hX dL_law_414 1 rfl ?_
    refine jw_iconst (v := (1 : Int32)) hX dL_law_416 (by decide) ?_
    refine jw_iadd hX dL_law_417 ?_
    refine jw_sld hX hB hi1 dL_law_418 ?_
    rw [hv1]
    refine jw_aload_n hX dL_law_419 rfl 2 rfl ?_
    refine jw_iload hX dL_law_420 1 rfl ?_
    refine jw_iconst (v := (2 : Int32)) hX dL_law_422 (by decide) ?_
    refine jw_iadd hX dL_law_423 ?_
    refine jw_sld hX hB hi2 dL_law_424 ?_
    rw [hv2]
    refine jw_aload_n hX dL_law_425 rfl 2 rfl ?_
    refine jw_iload hX dL_law_426 1 rfl ?_
    refine jw_iconst (v := (3 : Int32)) hX dL_law_428 (by decide) ?_
    refine jw_iadd hX dL_law_429 ?_
    refine jw_sld hX hB hi3 dL_law_430 ?_
    rw [hv3]
    refine jw_aload_n hX dL_law_431 rfl 2 rfl ?_
    refine jw_iload hX dL_law_432 1 rfl ?_
    refine jw_iconst (v := (4 : Int32)) hX dL_law_434 (by decide) ?_
    refine jw_iadd hX dL_law_435 ?_
    refine jw_sld hX hB hi4 dL_law_436 ?_
    rw [hv4]
    refine jw_lM (As := [.int p0, .int p1, .int p2, .int p3]) (rest := []) hX 4 (kX7_rule hT hm) gL_law_X7_rule rfl hdX7_rule ⟨by decide, by decide⟩ rfl (Nat.le_of_ble_eq_true rfl) dL_law_437 ⟨hc, hs⟩ ?_
    rintro ov w' ⟨rfl, rfl⟩
    show JW X _ _ _ _ _ [.int r]
    refine jw_istore hX [(6, .int r), (5, .int 0), (4, .int (nI i)), (0, .ref b), (1, .ref x), (2, .ref a), (3, .ref o)] dL_law_440 (by decide) rfl ?_
    refine jw_aload_n hX dL_law_442 rfl 5 rfl ?_
    refine jw_lM (As := []) (rest := []) hX 0 (kX7_thrown hT hth) gL_law_X7_thrown rfl hdX7_thrown ⟨by decide, by decide⟩ rfl (Nat.le_of_ble_eq_true rfl) dL_law_443 ⟨hc, hs⟩ ?_
    rintro ov w' ⟨rfl, rfl⟩
    show JW X _ _ _ _ _ [.int 0]
    refine jw_iload hX dL_law_446 1 rfl ?_
    refine jw_icmp_eq (tgt := 453) hX dL_law_448 (by decide) (fun _ => ?_) (fun h => absurd rfl h)
    refine jw_iload hX dL_law_453 1 rfl ?_
    refine jw_if_ne (tgt := 470) hX dL_law_455 (by decide) (fun h => absurd rfl h) (fun _ => ?_)
    refine jw_aload_n hX dL_law_458 rfl 6 rfl ?_
    refine jw_iconst (v := 0) hX dL_law_459 (by decide) ?_
    refine jw_olald hX hT dL_law_460 ?_
    rw [vp_updL0]
    refine jw_iload hX dL_law_461 0 rfl ?_
    refine jw_i2l (v := r.toInt64) hX dL_law_463 rfl ?_
    refine jw_lcmpeq (d := 0) hX dL_law_464 rfl ?_
    refine jw_if_eq (tgt := 470) hX dL_law_465 (by decide) (fun _ => ?_) (fun h => absurd rfl h)
    refine jw_goto (tgt := 1307) hX dL_law_470 (by decide) ?_
    refine jw_sub [2, 3, 4, 5, 6] (lwL i b x a o) rfl ?_
    exact kk _ _ _ hrel
  · refine jw_widen (cells + 10) (slots + 1000) (lc8 (by decide)) (lc8 (by decide)) ?_
    obtain ⟨r, w1, hm, hth, hrel⟩ := hM2 z w9 hq
    show JW X _ _ _ _ _ [.int (if z = 0 then (1 : Int32) else if z = 1 then (2 : Int32) else 0)]
    refine jw_istore hX [(5, .int (if z = 0 then (1 : Int32) else if z = 1 then (2 : Int32) else 0)), (4, .int (nI i)), (0, .ref b), (1, .ref x), (2, .ref a), (3, .ref o)] dL_law_410 (by decide) rfl ?_
    refine jw_aload_n hX dL_law_412 rfl 4 rfl ?_
    refine jw_aload_n hX dL_law_413 rfl 2 rfl ?_
    refine jw_iload hX dL_law_414 1 rfl ?_
    refine jw_iconst (v := (1 : Int32)) hX dL_law_416 (by decide) ?_
    refine jw_iadd hX dL_law_417 ?_
    refine jw_sld hX hB hi1 dL_law_418 ?_
    rw [hv1]
    refine jw_aload_n hX dL_law_419 rfl 2 rfl ?_
    refine jw_iload hX dL_law_420 1 rfl ?_
    refine jw_iconst (v := (2 : Int32)) hX dL_law_422 (by decide) ?_
    refine jw_iadd hX dL_law_423 ?_
    refine jw_sld hX hB hi2 dL_law_424 ?_
    rw [hv2]
    refine jw_aload_n hX dL_law_425 rfl 2 rfl ?_
    refine jw_iload hX dL_law_426 1 rfl ?_
    refine jw_iconst (v := (3 : Int32)) hX dL_law_428 (by decide) ?_
    refine jw_iadd hX dL_law_429 ?_
    refine jw_sld hX hB hi3 dL_law_430 ?_
    rw [hv3]
    refine jw_aload_n hX dL_law_431 rfl 2 rfl ?_
    refine jw_iload hX dL_law_432 1 rfl ?_
    refine jw_iconst (v := (4 : Int32)) hX dL_law_434 (by decide) ?_
    refine jw_iadd hX dL_law_435 ?_
    refine jw_sld hX hB hi4 dL_law_436 ?_
    rw [hv4]
    refine jw_lM (As := [.int p0, .int p1, .int p2, .int p3]) (rest := []) hX 4 (kX7_rule hT hm) gL_law_X7_rule rfl hdX7_rule ⟨by decide, by decide⟩ rfl (Nat.le_of_ble_eq_true rfl) dL_law_437 ⟨hc, hs⟩ ?_
    rintro ov w' ⟨rfl, rfl⟩
    show JW X _ _ _ _ _ [.int r]
    refine jw_istore hX [(6, .int r), (5, .int (if z = 0 then (1 : Int32) else if z = 1 then (2 : Int32) else 0)), (4, .int (nI i)), (0, .ref b), (1, .ref x), (2, .ref a), (3, .ref o)] dL_law_440 (by decide) rfl ?_
    refine jw_aload_n hX dL_law_442 rfl 5 rfl ?_
    refine jw_lM (As := []) (rest := []) hX 0 (kX7_thrown hT hth) gL_law_X7_thrown rfl hdX7_thrown ⟨by decide, by decide⟩ rfl (Nat.le_of_ble_eq_true rfl) dL_law_443 ⟨hc, hs⟩ ?_
    rintro ov w' ⟨rfl, rfl⟩
    show JW X _ _ _ _ _ [.int (if z = 0 then (1 : Int32) else if z = 1 then (2 : Int32) else 0)]
    refine jw_iload hX dL_law_446 1 rfl ?_
    refine jw_icmp_eq (tgt := 453) hX dL_law_448 (by decide) (fun _ => ?_) (fun h => absurd rfl h)
    refine jw_iload hX dL_law_453 1 rfl ?_
    refine jw_if_ne (tgt := 470) hX dL_law_455 (by decide) (fun _ => ?_) (fun h => ?_)
    · refine jw_goto (tgt := 1307) hX dL_law_470 (by decide) ?_
      refine jw_sub [2, 3, 4, 5, 6] (lwL i b x a o) rfl ?_
      exact kk _ _ _ hrel
    · exfalso
      rcases hqx z w9 hq with rfl | rfl
      all_goals exact absurd h (by decide)
set_option maxRecDepth 100000 in
set_option maxHeartbeats 4000000 in
theorem lq_takeBack {X : JX} {cells slots : Nat} {cI cZ cO cJ : ClassId} {gs : JP} {S : PS} {w : MW} {i b x a o L : Nat} {ad : Nat → Nat} {xs : Nat → Int32} {f : Nat → Int64} {p0 : Int32} {n7 : Nat} {Q : Int32 → PS → Prop} {Qx : Nat → PS → Prop} {REL : PS → MW → Prop} (hX : jOK X cL_law 7 wsL_law RL room_1) (hT : jT X = jTy cI cZ cO cJ) (hGX : jG X (GL gs)) (hB : jScr X b L xs) (hv1 : xs (nI i + 1).toNatClampNeg = p0) (hi1 : vp_in (nI i + 1) L) (hok : okP S x 6 = true) (hc : cells + 10 ≤ 601024) (hs : slots + 1000 ≤ 7293034)
    (hC : CX (jL X) (GP gs) (jD X) (jT X) yX6_takeBack wsX6_takeBack rmX6_takeBack [.ref x, .int p0] (pW cI cO S) (fun ov w2 => ∃ (r : Int32) (w9 : PS), Q r w9 ∧ ov = some (.int r) ∧ w2 = pW cI cO w9) (fun E w2 => ∃ (z : Nat) (w9 : PS), Qx z w9 ∧ E = exN z ∧ w2 = pW cI cO w9)) (hqx : ∀ (z : Nat) (w9 : PS), Qx z w9 → z = 2 ∨ z = 1)
    (hM1 : ∀ (r : Int32) (w9 : PS), Q r w9 → ∃ w1 : MW, fX7_takeBack n7 w p0 = some (r, w1) ∧ fX7_thrown w1 = some 0 ∧ REL w9 w1) (hM2 : ∀ (z : Nat) (w9 : PS), Qx z w9 → ∃ (r : Int32) (w1 : MW), fX7_takeBack n7 w p0 = some (r, w1) ∧ fX7_thrown w1 = some (if z = 2 then (1 : Int32) else if z = 1 then (2 : Int32) else 0) ∧ REL w9 w1)
    (kk : ∀ (f1 : Nat → Int64) (S1 : PS) (w1 : MW), REL S1 w1 → JW X (cells + 10) (slots + 1000) (mW a ad cI cZ w1 ++ (o, oE cJ f1) :: pW cI cO S1) 1307 (lwL i b x a o) []) : JW X cells slots (mW a ad cI cZ w ++ (o, oE cJ f) :: pW cI cO S) 473 (lwL i b x a o) [] := by
  refine jw_aload_n hX dL_law_473 rfl 2 rfl ?_
  refine jw_aload_n hX dL_law_474 rfl 1 rfl ?_
  refine jw_iload hX dL_law_475 0 rfl ?_
  refine jw_iconst (v := (1 : Int32)) hX dL_law_477 (by decide) ?_
  refine jw_iadd hX dL_law_478 ?_
  refine jw_sld hX hB hi1 dL_law_479 ?_
  rw [hv1]
  refine jw_aload_n hX dL_law_480 rfl 4 rfl ?_
  refine jw_lS (As := [.ref x, .int p0, .ref o]) (rest := []) hX (GL_ok gs) hGX 3 (kL_takeBack hT hok hC hqx) gL_law_L_takeBack rfl (by decide) ⟨by decide, by decide⟩ rfl (Nat.le_of_ble_eq_true rfl) dL_law_481 ⟨lc9 hc (by decide), lc9 hs (by decide)⟩ ?_
  rintro ov w' (⟨r, w9, hq, rfl, rfl⟩ | ⟨z, w9, hq, rfl, rfl⟩)
  · refine jw_widen (cells + 10) (slots + 1000) (lc8 (by decide)) (lc8 (by decide)) ?_
    obtain ⟨w1, hm, hth, hrel⟩ := hM1 r w9 hq
    show JW X _ _ _ _ _ [.int 0]
    refine jw_istore hX [(5, .int 0), (4, .int (nI i)), (0, .ref b), (1, .ref x), (2, .ref a), (3, .ref o)] dL_law_484 (by decide) rfl ?_
    refine jw_aload_n hX dL_law_486 rfl 4 rfl ?_
    refine jw_aload_n hX dL_law_487 rfl 2 rfl ?_
    refine jw_iload hX dL_law_488 1 rfl ?_
    refine jw_iconst (v := (1 : Int32)) hX dL_law_490 (by decide) ?_
    refine jw_iadd hX dL_law_491 ?_
    refine jw_sld hX hB hi1 dL_law_492 ?_
    rw [hv1]
    refine jw_lM (As := [.int p0]) (rest := []) hX 1 (kX7_takeBack hT hm) gL_law_X7_takeBack rfl hdX7_takeBack ⟨by decide, by decide⟩ rfl (Nat.le_of_ble_eq_true rfl) dL_law_493 ⟨hc, hs⟩ ?_
    rintro ov w' ⟨rfl, rfl⟩
    show JW X _ _ _ _ _ [.int r]
    refine jw_istore hX [(6, .int r), (5, .int 0), (4, .int (nI i)), (0, .ref b), (1, .ref x), (2, .ref a), (3, .ref o)] dL_law_496 (by decide) rfl ?_
    refine jw_aload_n hX dL_law_498 rfl 5 rfl ?_
    refine jw_lM (As := []) (rest := []) hX 0 (kX7_thrown hT hth) gL_law_X7_thrown rfl hdX7_thrown ⟨by decide, by decide⟩ rfl (Nat.le_of_ble_eq_true rfl) dL_law_499 ⟨hc, hs⟩ ?_
    rintro ov w' ⟨rfl, rfl⟩
    show JW X _ _ _ _ _ [.int 0]
    refine jw_iload hX dL_law_502 1 rfl ?_
    refine jw_icmp_eq (tgt := 509) hX dL_law_504 (by decide) (fun _ => ?_) (fun h => absurd rfl h)
    refine jw_iload hX dL_law_509 1 rfl ?_
    refine jw_if_ne (tgt := 526) hX dL_law_511 (by decide) (fun h => absurd rfl h) (fun _ => ?_)
    refine jw_aload_n hX dL_law_514 rfl 6 rfl ?_
    refine jw_iconst (v := 0) hX dL_law_515 (by decide) ?_
    refine jw_olald hX hT dL_law_516 ?_
    rw [vp_updL0]
    refine jw_iload hX dL_law_517 0 rfl ?_
    refine jw_i2l (v := r.toInt64) hX dL_law_519 rfl ?_
    refine jw_lcmpeq (d := 0) hX dL_law_520 rfl ?_
    refine jw_if_eq (tgt := 526) hX dL_law_521 (by decide) (fun _ => ?_) (fun h => absurd rfl h)
    refine jw_goto (tgt := 1307) hX dL_law_526 (by decide) ?_
    refine jw_sub [2, 3, 4, 5, 6] (lwL i b x a o) rfl ?_
    exact kk _ _ _ hrel
  · refine jw_widen (cells + 10) (slots + 1000) (lc8 (by decide)) (lc8 (by decide)) ?_
    obtain ⟨r, w1, hm, hth, hrel⟩ := hM2 z w9 hq
    show JW X _ _ _ _ _ [.int (if z = 2 then (1 : Int32) else if z = 1 then (2 : Int32) else 0)]
    refine jw_istore hX [(5, .int (if z = 2 then (1 : Int32) else if z = 1 then (2 : Int32) else 0)), (4, .int (nI i)), (0, .ref b), (1, .ref x), (2, .ref a), (3, .ref o)] dL_law_484 (by decide) rfl ?_
    refine jw_aload_n hX dL_law_486 rfl 4 rfl ?_
    refine jw_aload_n hX dL_law_487 rfl 2 rfl ?_
    refine jw_iload hX dL_law_488 1 rfl ?_
    refine jw_iconst (v := (1 : Int32)) hX dL_law_490 (by decide) ?_
    refine jw_iadd hX dL_law_491 ?_
    refine jw_sld hX hB hi1 dL_law_492 ?_
    rw [hv1]
    refine jw_lM (As := [.int p0]) (rest := []) hX 1 (kX7_takeBack hT hm) gL_law_X7_takeBack rfl hdX7_takeBack ⟨by decide, by decide⟩ rfl (Nat.le_of_ble_eq_true rfl) dL_law_493 ⟨hc, hs⟩ ?_
    rintro ov w' ⟨rfl, rfl⟩
    show JW X _ _ _ _ _ [.int r]
    refine jw_istore hX [(6, .int r), (5, .int (if z = 2 then (1 : Int32) else if z = 1 then (2 : Int32) else 0)), (4, .int (nI i)), (0, .ref b), (1, .ref x), (2, .ref a), (3, .ref o)] dL_law_496 (by decide) rfl ?_
    refine jw_aload_n hX dL_law_498 rfl 5 rfl ?_
    refine jw_lM (As := []) (rest := []) hX 0 (kX7_thrown hT hth) gL_law_X7_thrown rfl hdX7_thrown ⟨by decide, by decide⟩ rfl (Nat.le_of_ble_eq_true rfl) dL_law_499 ⟨hc, hs⟩ ?_
    rintro ov w' ⟨rfl, rfl⟩
    show JW X _ _ _ _ _ [.int (if z = 2 then (1 : Int32) else if z = 1 then (2 : Int32) else 0)]
    refine jw_iload hX dL_law_502 1 rfl ?_
    refine jw_icmp_eq (tgt := 509) hX dL_law_504 (by decide) (fun _ => ?_) (fun h => absurd rfl h)
    refine jw_iload hX dL_law_509 1 rfl ?_
    refine jw_if_ne (tgt := 526) hX dL_law_511 (by decide) (fun _ => ?_) (fun h => ?_)
    · refine jw_goto (tgt := 1307) hX dL_law_526 (by decide) ?_
      refine jw_sub [2, 3, 4, 5, 6] (lwL i b x a o) rfl ?_
      exact kk _ _ _ hrel
    · exfalso
      rcases hqx z w9 hq with rfl | rfl
      all_goals exact absurd h (by decide)
set_option maxRecDepth 100000 in
set_option maxHeartbeats 4000000 in
theorem lq_audit {X : JX} {cells slots : Nat} {cI cZ cO cJ : ClassId} {gs : JP} {S : PS} {w : MW} {i b x a o L : Nat} {ad : Nat → Nat} {xs : Nat → Int32} {f : Nat → Int64} {p0 p1 : Int32} {Q : Int32 → PS → Prop} {Qx : Nat → PS → Prop} {REL : PS → MW → Prop} (hX : jOK X cL_law 7 wsL_law RL room_1) (hT : jT X = jTy cI cZ cO cJ) (hGX : jG X (GL gs)) (hB : jScr X b L xs) (hv1 : xs (nI i + 1).toNatClampNeg = p0) (hi1 : vp_in (nI i + 1) L) (hv2 : xs (nI i + 2).toNatClampNeg = p1) (hi2 : vp_in (nI i + 2) L) (hok : okP S x 6 = true) (hc : cells + 10 ≤ 601024) (hs : slots + 1000 ≤ 7293034)
    (hC : CX (jL X) (GP gs) (jD X) (jT X) yX6_audit wsX6_audit rmX6_audit [.ref x, .int p0, .int p1] (pW cI cO S) (fun ov w2 => ∃ (r : Int32) (w9 : PS), Q r w9 ∧ ov = some (.int r) ∧ w2 = pW cI cO w9) (fun E w2 => ∃ (z : Nat) (w9 : PS), Qx z w9 ∧ E = exN z ∧ w2 = pW cI cO w9)) (hqx : ∀ (z : Nat) (w9 : PS), Qx z w9 → z = 2 ∨ z = 0 ∨ z = 1)
    (hM1 : ∀ (r : Int32) (w9 : PS), Q r w9 → ∃ w1 : MW, fX7_audit w p0 p1 = some (r, w1) ∧ fX7_thrown w1 = some 0 ∧ REL w9 w1) (hM2 : ∀ (z : Nat) (w9 : PS), Qx z w9 → ∃ (r : Int32) (w1 : MW), fX7_audit w p0 p1 = some (r, w1) ∧ fX7_thrown w1 = some (if z = 2 then (1 : Int32) else if z = 0 then (2 : Int32) else if z = 1 then (3 : Int32) else 0) ∧ REL w9 w1)
    (kk : ∀ (f1 : Nat → Int64) (S1 : PS) (w1 : MW), REL S1 w1 → JW X (cells + 10) (slots + 1000) (mW a ad cI cZ w1 ++ (o, oE cJ f1) :: pW cI cO S1) 1307 (lwL i b x a o) []) : JW X cells slots (mW a ad cI cZ w ++ (o, oE cJ f) :: pW cI cO S) 529 (lwL i b x a o) [] := by
  refine jw_aload_n hX dL_law_529 rfl 2 rfl ?_
  refine jw_aload_n hX dL_law_530 rfl 1 rfl ?_
  refine jw_iload hX dL_law_531 0 rfl ?_
  refine jw_iconst (v := (1 : Int32)) hX dL_law_533 (by decide) ?_
  refine jw_iadd hX dL_law_534 ?_
  refine jw_sld hX hB hi1 dL_law_535 ?_
  rw [hv1]
  refine jw_aload_n hX dL_law_536 rfl 1 rfl ?_
  refine jw_iload hX dL_law_537 0 rfl ?_
  refine jw_iconst (v := (2 : Int32)) hX dL_law_539 (by decide) ?_
  refine jw_iadd hX dL_law_540 ?_
  refine jw_sld hX hB hi2 dL_law_541 ?_
  rw [hv2]
  refine jw_aload_n hX dL_law_542 rfl 4 rfl ?_
  refine jw_lS (As := [.ref x, .int p0, .int p1, .ref o]) (rest := []) hX (GL_ok gs) hGX 4 (kL_audit hT hok hC hqx) gL_law_L_audit rfl (by decide) ⟨by decide, by decide⟩ rfl (Nat.le_of_ble_eq_true rfl) dL_law_543 ⟨lc9 hc (by decide), lc9 hs (by decide)⟩ ?_
  rintro ov w' (⟨r, w9, hq, rfl, rfl⟩ | ⟨z, w9, hq, rfl, rfl⟩)
  · refine jw_widen (cells + 10) (slots + 1000) (lc8 (by decide)) (lc8 (by decide)) ?_
    obtain ⟨w1, hm, hth, hrel⟩ := hM1 r w9 hq
    show JW X _ _ _ _ _ [.int 0]
    refine jw_istore hX [(5, .int 0), (4, .int (nI i)), (0, .ref b), (1, .ref x), (2, .ref a), (3, .ref o)] dL_law_546 (by decide) rfl ?_
    refine jw_aload_n hX dL_law_548 rfl 4 rfl ?_
    refine jw_aload_n hX dL_law_549 rfl 2 rfl ?_
    refine jw_iload hX dL_law_550 1 rfl ?_
    refine jw_iconst (v := (1 : Int32)) hX dL_law_552 (by decide) ?_
    refine jw_iadd hX dL_law_553 ?_
    refine jw_sld hX hB hi1 dL_law_554 ?_
    rw [hv1]
    refine jw_aload_n hX dL_law_555 rfl 2 rfl ?_
    refine jw_iload hX dL_law_556 1 rfl ?_
    refine jw_iconst (v := (2 : Int32)) hX dL_law_558 (by decide) ?_
    refine jw_iadd hX dL_law_559 ?_
    refine jw_sld hX hB hi2 dL_law_560 ?_
    rw [hv2]
    refine jw_lM (As := [.int p0, .int p1]) (rest := []) hX 2 (kX7_audit hT hm) gL_law_X7_audit rfl hdX7_audit ⟨by decide, by decide⟩ rfl (Nat.le_of_ble_eq_true rfl) dL_law_561 ⟨hc, hs⟩ ?_
    rintro ov w' ⟨rfl, rfl⟩
    show JW X _ _ _ _ _ [.int r]
    refine jw_istore hX [(6, .int r), (5, .int 0), (4, .int (nI i)), (0, .ref b), (1, .ref x), (2, .ref a), (3, .ref o)] dL_law_564 (by decide) rfl ?_
    refine jw_aload_n hX dL_law_566 rfl 5 rfl ?_
    refine jw_lM (As := []) (rest := []) hX 0 (kX7_thrown hT hth) gL_law_X7_thrown rfl hdX7_thrown ⟨by decide, by decide⟩ rfl (Nat.le_of_ble_eq_true rfl) dL_law_567 ⟨hc, hs⟩ ?_
    rintro ov w' ⟨rfl, rfl⟩
    show JW X _ _ _ _ _ [.int 0]
    refine jw_iload hX dL_law_570 1 rfl ?_
    refine jw_icmp_eq (tgt := 577) hX dL_law_572 (by decide) (fun _ => ?_) (fun h => absurd rfl h)
    refine jw_iload hX dL_law_577 1 rfl ?_
    refine jw_if_ne (tgt := 594) hX dL_law_579 (by decide) (fun h => absurd rfl h) (fun _ => ?_)
    refine jw_aload_n hX dL_law_582 rfl 6 rfl ?_
    refine jw_iconst (v := 0) hX dL_law_583 (by decide) ?_
    refine jw_olald hX hT dL_law_584 ?_
    rw [vp_updL0]
    refine jw_iload hX dL_law_585 0 rfl ?_
    refine jw_i2l (v := r.toInt64) hX dL_law_587 rfl ?_
    refine jw_lcmpeq (d := 0) hX dL_law_588 rfl ?_
    refine jw_if_eq (tgt := 594) hX dL_law_589 (by decide) (fun _ => ?_) (fun h => absurd rfl h)
    refine jw_goto (tgt := 1307) hX dL_law_594 (by decide) ?_
    refine jw_sub [2, 3, 4, 5, 6] (lwL i b x a o) rfl ?_
    exact kk _ _ _ hrel
  · refine jw_widen (cells + 10) (slots + 1000) (lc8 (by decide)) (lc8 (by decide)) ?_
    obtain ⟨r, w1, hm, hth, hrel⟩ := hM2 z w9 hq
    show JW X _ _ _ _ _ [.int (if z = 2 then (1 : Int32) else if z = 0 then (2 : Int32) else if z = 1 then (3 : Int32) else 0)]
    refine jw_istore hX [(5, .int (if z = 2 then (1 : Int32) else if z = 0 then (2 : Int32) else if z = 1 then (3 : Int32) else 0)), (4, .int (nI i)), (0, .ref b), (1, .ref x), (2, .ref a), (3, .ref o)] dL_law_546 (by decide) rfl ?_
    refine jw_aload_n hX dL_law_548 rfl 4 rfl ?_
    refine jw_aload_n hX dL_law_549 rfl 2 rfl ?_
    refine jw_iload hX dL_law_550 1 rfl ?_
    refine jw_iconst (v := (1 : Int32)) hX dL_law_552 (by decide) ?_
    refine jw_iadd hX dL_law_553 ?_
    refine jw_sld hX hB hi1 dL_law_554 ?_
    rw [hv1]
    refine jw_aload_n hX dL_law_555 rfl 2 rfl ?_
    refine jw_iload hX dL_law_556 1 rfl ?_
    refine jw_iconst (v := (2 : Int32)) hX dL_law_558 (by decide) ?_
    refine jw_iadd hX dL_law_559 ?_
    refine jw_sld hX hB hi2 dL_law_560 ?_
    rw [hv2]
    refine jw_lM (As := [.int p0, .int p1]) (rest := []) hX 2 (kX7_audit hT hm) gL_law_X7_audit rfl hdX7_audit ⟨by decide, by decide⟩ rfl (Nat.le_of_ble_eq_true rfl) dL_law_561 ⟨hc, hs⟩ ?_
    rintro ov w' ⟨rfl, rfl⟩
    show JW X _ _ _ _ _ [.int r]
    refine jw_istore hX [(6, .int r), (5, .int (if z = 2 then (1 : Int32) else if z = 0 then (2 : Int32) else if z = 1 then (3 : Int32) else 0)), (4, .int (nI i)), (0, .ref b), (1, .ref x), (2, .ref a), (3, .ref o)] dL_law_564 (by decide) rfl ?_
    refine jw_aload_n hX dL_law_566 rfl 5 rfl ?_
    refine jw_lM (As := []) (rest := []) hX 0 (kX7_thrown hT hth) gL_law_X7_thrown rfl hdX7_thrown ⟨by decide, by decide⟩ rfl (Nat.le_of_ble_eq_true rfl) dL_law_567 ⟨hc, hs⟩ ?_
    rintro ov w' ⟨rfl, rfl⟩
    show JW X _ _ _ _ _ [.int (if z = 2 then (1 : Int32) else if z = 0 then (2 : Int32) else if z = 1 then (3 : Int32) else 0)]
    refine jw_iload hX dL_law_570 1 rfl ?_
    refine jw_icmp_eq (tgt := 577) hX dL_law_572 (by decide) (fun _ => ?_) (fun h => absurd rfl h)
    refine jw_iload hX dL_law_577 1 rfl ?_
    refine jw_if_ne (tgt := 594) hX dL_law_579 (by decide) (fun _ => ?_) (fun h => ?_)
    · refine jw_goto (tgt := 1307) hX dL_law_594 (by decide) ?_
      refine jw_sub [2, 3, 4, 5, 6] (lwL i b x a o) rfl ?_
      exact kk _ _ _ hrel
    · exfalso
      rcases hqx z w9 hq with rfl | rfl | rfl
      all_goals exact absurd h (by decide)
set_option maxRecDepth 100000 in
set_option maxHeartbeats 4000000 in
theorem lq_end {X : JX} {cells slots : Nat} {cI cZ cO cJ : ClassId} {gs : JP} {S : PS} {w : MW} {i b x a o L : Nat} {ad : Nat → Nat} {xs : Nat → Int32} {f : Nat → Int64} {p0 : Int32} {Q : Int32 → PS → Prop} {Qx : Nat → PS → Prop} {REL : PS → MW → Prop} (hX : jOK X cL_law 7 wsL_law RL room_1) (hT : jT X = jTy cI cZ cO cJ) (hGX : jG X (GL gs)) (hB : jScr X b L xs) (hv1 : xs (nI i + 1).toNatClampNeg = p0) (hi1 : vp_in (nI i + 1) L) (hok : okP S x 6 = true) (hc : cells + 10 ≤ 601024) (hs : slots + 1000 ≤ 7293034)
    (hC : CX (jL X) (GP gs) (jD X) (jT X) yX6_end wsX6_end rmX6_end [.ref x, .int p0] (pW cI cO S) (fun ov w2 => ∃ (r : Int32) (w9 : PS), Q r w9 ∧ ov = some (.int r) ∧ w2 = pW cI cO w9) (fun E w2 => ∃ (z : Nat) (w9 : PS), Qx z w9 ∧ E = exN z ∧ w2 = pW cI cO w9)) (hqx : ∀ (z : Nat) (w9 : PS), Qx z w9 → z = 2 ∨ z = 1)
    (hM1 : ∀ (r : Int32) (w9 : PS), Q r w9 → ∃ w1 : MW, fX7_end w p0 = some (r, w1) ∧ fX7_thrown w1 = some 0 ∧ REL w9 w1) (hM2 : ∀ (z : Nat) (w9 : PS), Qx z w9 → ∃ (r : Int32) (w1 : MW), fX7_end w p0 = some (r, w1) ∧ fX7_thrown w1 = some (if z = 2 then (1 : Int32) else if z = 1 then (2 : Int32) else 0) ∧ REL w9 w1)
    (kk : ∀ (f1 : Nat → Int64) (S1 : PS) (w1 : MW), REL S1 w1 → JW X (cells + 10) (slots + 1000) (mW a ad cI cZ w1 ++ (o, oE cJ f1) :: pW cI cO S1) 1307 (lwL i b x a o) []) : JW X cells slots (mW a ad cI cZ w ++ (o, oE cJ f) :: pW cI cO S) 597 (lwL i b x a o) [] := by
  refine jw_aload_n hX dL_law_597 rfl 2 rfl ?_
  refine jw_aload_n hX dL_law_598 rfl 1 rfl ?_
  refine jw_iload hX dL_law_599 0 rfl ?_
  refine jw_iconst (v := (1 : Int32)) hX dL_law_601 (by decide) ?_
  refine jw_iadd hX dL_law_602 ?_
  refine jw_sld hX hB hi1 dL_law_603 ?_
  rw [hv1]
  refine jw_aload_n hX dL_law_604 rfl 4 rfl ?_
  refine jw_lS (As := [.ref x, .int p0, .ref o]) (rest := []) hX (GL_ok gs) hGX 3 (kL_end hT hok hC hqx) gL_law_L_end rfl (by decide) ⟨by decide, by decide⟩ rfl (Nat.le_of_ble_eq_true rfl) dL_law_605 ⟨lc9 hc (by decide), lc9 hs (by decide)⟩ ?_
  rintro ov w' (⟨r, w9, hq, rfl, rfl⟩ | ⟨z, w9, hq, rfl, rfl⟩)
  · refine jw_widen (cells + 10) (slots + 1000) (lc8 (by decide)) (lc8 (by decide)) ?_
    obtain ⟨w1, hm, hth, hrel⟩ := hM1 r w9 hq
    show JW X _ _ _ _ _ [.int 0]
    refine jw_istore hX [(5, .int 0), (4, .int (nI i)), (0, .ref b), (1, .ref x), (2, .ref a), (3, .ref o)] dL_law_608 (by decide) rfl ?_
    refine jw_aload_n hX dL_law_610 rfl 4 rfl ?_
    refine jw_aload_n hX dL_law_611 rfl 2 rfl ?_
    refine jw_iload hX dL_law_612 1 rfl ?_
    refine jw_iconst (v := (1 : Int32)) hX dL_law_614 (by decide) ?_
    refine jw_iadd hX dL_law_615 ?_
    refine jw_sld hX hB hi1 dL_law_616 ?_
    rw [hv1]
    refine jw_lM (As := [.int p0]) (rest := []) hX 1 (kX7_end hT hm) gL_law_X7_end rfl hdX7_end ⟨by decide, by decide⟩ rfl (Nat.le_of_ble_eq_true rfl) dL_law_617 ⟨hc, hs⟩ ?_
    rintro ov w' ⟨rfl, rfl⟩
    show JW X _ _ _ _ _ [.int r]
    refine jw_istore hX [(6, .int r), (5, .int 0), (4, .int (nI i)), (0, .ref b), (1, .ref x), (2, .ref a), (3, .ref o)] dL_law_620 (by decide) rfl ?_
    refine jw_aload_n hX dL_law_622 rfl 5 rfl ?_
    refine jw_lM (As := []) (rest := []) hX 0 (kX7_thrown hT hth) gL_law_X7_thrown rfl hdX7_thrown ⟨by decide, by decide⟩ rfl (Nat.le_of_ble_eq_true rfl) dL_law_623 ⟨hc, hs⟩ ?_
    rintro ov w' ⟨rfl, rfl⟩
    show JW X _ _ _ _ _ [.int 0]
    refine jw_iload hX dL_law_626 1 rfl ?_
    refine jw_icmp_eq (tgt := 633) hX dL_law_628 (by decide) (fun _ => ?_) (fun h => absurd rfl h)
    refine jw_iload hX dL_law_633 1 rfl ?_
    refine jw_if_ne (tgt := 657) hX dL_law_635 (by decide) (fun h => absurd rfl h) (fun _ => ?_)
    refine jw_aload_n hX dL_law_638 rfl 6 rfl ?_
    refine jw_iconst (v := 0) hX dL_law_639 (by decide) ?_
    refine jw_olald hX hT dL_law_640 ?_
    rw [vp_updL0]
    refine jw_iload hX dL_law_641 0 rfl ?_
    refine jw_if_eq (tgt := 650) hX dL_law_643 (by decide) (fun h0 => ?_) (fun h0 => ?_)
    · have hv9 : v01 r = 0 := if_pos h0
      refine jw_lconst (v := 0) hX dL_law_650 (by decide) ?_
      refine jw_lcmpeq (d := 0) hX dL_law_651 hv9 ?_
      refine jw_if_eq (tgt := 657) hX dL_law_652 (by decide) (fun _ => ?_) (fun h => absurd rfl h)
      refine jw_goto (tgt := 1307) hX dL_law_657 (by decide) ?_
      refine jw_sub [2, 3, 4, 5, 6] (lwL i b x a o) rfl ?_
      exact kk _ _ _ hrel
    · have hv9 : v01 r = 1 := if_neg h0
      refine jw_lconst (v := 1) hX dL_law_646 (by decide) ?_
      refine jw_goto (tgt := 651) hX dL_law_647 (by decide) ?_
      refine jw_lcmpeq (d := 0) hX dL_law_651 hv9 ?_
      refine jw_if_eq (tgt := 657) hX dL_law_652 (by decide) (fun _ => ?_) (fun h => absurd rfl h)
      refine jw_goto (tgt := 1307) hX dL_law_657 (by decide) ?_
      refine jw_sub [2, 3, 4, 5, 6] (lwL i b x a o) rfl ?_
      exact kk _ _ _ hrel
  · refine jw_widen (cells + 10) (slots + 1000) (lc8 (by decide)) (lc8 (by decide)) ?_
    obtain ⟨r, w1, hm, hth, hrel⟩ := hM2 z w9 hq
    show JW X _ _ _ _ _ [.int (if z = 2 then (1 : Int32) else if z = 1 then (2 : Int32) else 0)]
    refine jw_istore hX [(5, .int (if z = 2 then (1 : Int32) else if z = 1 then (2 : Int32) else 0)), (4, .int (nI i)), (0, .ref b), (1, .ref x), (2, .ref a), (3, .ref o)] dL_law_608 (by decide) rfl ?_
    refine jw_aload_n hX dL_law_610 rfl 4 rfl ?_
    refine jw_aload_n hX dL_law_611 rfl 2 rfl ?_
    refine jw_iload hX dL_law_612 1 rfl ?_
    refine jw_iconst (v := (1 : Int32)) hX dL_law_614 (by decide) ?_
    refine jw_iadd hX dL_law_615 ?_
    refine jw_sld hX hB hi1 dL_law_616 ?_
    rw [hv1]
    refine jw_lM (As := [.int p0]) (rest := []) hX 1 (kX7_end hT hm) gL_law_X7_end rfl hdX7_end ⟨by decide, by decide⟩ rfl (Nat.le_of_ble_eq_true rfl) dL_law_617 ⟨hc, hs⟩ ?_
    rintro ov w' ⟨rfl, rfl⟩
    show JW X _ _ _ _ _ [.int r]
    refine jw_istore hX [(6, .int r), (5, .int (if z = 2 then (1 : Int32) else if z = 1 then (2 : Int32) else 0)), (4, .int (nI i)), (0, .ref b), (1, .ref x), (2, .ref a), (3, .ref o)] dL_law_620 (by decide) rfl ?_
    refine jw_aload_n hX dL_law_622 rfl 5 rfl ?_
    refine jw_lM (As := []) (rest := []) hX 0 (kX7_thrown hT hth) gL_law_X7_thrown rfl hdX7_thrown ⟨by decide, by decide⟩ rfl (Nat.le_of_ble_eq_true rfl) dL_law_623 ⟨hc, hs⟩ ?_
    rintro ov w' ⟨rfl, rfl⟩
    show JW X _ _ _ _ _ [.int (if z = 2 then (1 : Int32) else if z = 1 then (2 : Int32) else 0)]
    refine jw_iload hX dL_law_626 1 rfl ?_
    refine jw_icmp_eq (tgt := 633) hX dL_law_628 (by decide) (fun _ => ?_) (fun h => absurd rfl h)
    refine jw_iload hX dL_law_633 1 rfl ?_
    refine jw_if_ne (tgt := 657) hX dL_law_635 (by decide) (fun _ => ?_) (fun h => ?_)
    · refine jw_goto (tgt := 1307) hX dL_law_657 (by decide) ?_
      refine jw_sub [2, 3, 4, 5, 6] (lwL i b x a o) rfl ?_
      exact kk _ _ _ hrel
    · exfalso
      rcases hqx z w9 hq with rfl | rfl
      all_goals exact absurd h (by decide)
set_option maxRecDepth 100000 in
set_option maxHeartbeats 4000000 in
theorem lq_entries {X : JX} {cells slots : Nat} {cI cZ cO cJ : ClassId} {gs : JP} {S : PS} {w : MW} {i b x a o L : Nat} {ad : Nat → Nat} {xs : Nat → Int32} {f : Nat → Int64} {r : Int32} {S1 : PS} {w1 : MW} (hX : jOK X cL_law 7 wsL_law RL room_1) (hT : jT X = jTy cI cZ cO cJ) (hGX : jG X (GL gs)) (hB : jScr X b L xs) (hok : okP S x 6 = true) (hc : cells + 10 ≤ 601024) (hs : slots + 1000 ≤ 7293034)
    (hC : CC (jL X) (GP gs) (jD X) (jT X) yX6_entries wsX6_entries rmX6_entries [.ref x] (pW cI cO S) (fun ov w2 => ov = some (.int r) ∧ w2 = pW cI cO S1)) (hm : fX7_entries w = some (r, w1))
    (kk : JW X (cells + 10) (slots + 1000) (mW a ad cI cZ w1 ++ (o, oE cJ f) :: pW cI cO S1) 1307 (lwL i b x a o) []) : JW X cells slots (mW a ad cI cZ w ++ (o, oE cJ f) :: pW cI cO S) 660 (lwL i b x a o) [] := by
  refine jw_aload_n hX dL_law_660 rfl 2 rfl ?_
  have e0 : mW a ad cI cZ w ++ (o, oE cJ f) :: pW cI cO S = (mW a ad cI cZ w ++ [(o, oE cJ f)]) ++ pW cI cO S := by rw [List.append_assoc]; rfl
  rw [e0]
  refine jw_lV (As := []) (rest := []) hX (GP_ok gs) (gl_gp hGX) 0 hC gL_law_X6_entries rfl hdX6_entries ⟨by decide, by decide⟩ 6 rfl (by decide) hok rfl (Nat.le_of_ble_eq_true rfl) dL_law_661 ⟨lc9 hc (by decide), lc9 hs (by decide)⟩ ?_
  rintro ov w' ⟨rfl, rfl⟩
  refine jw_widen (cells + 10) (slots + 1000) (lc8 (by decide)) (lc8 (by decide)) ?_
  have e1 : (mW a ad cI cZ w ++ [(o, oE cJ f)]) ++ pW cI cO S1 = mW a ad cI cZ w ++ (o, oE cJ f) :: pW cI cO S1 := by rw [List.append_assoc]; rfl
  rw [e1]
  show JW X _ _ _ _ _ [.int r]
  refine jw_aload_n hX dL_law_664 rfl 3 rfl ?_
  refine jw_lM (As := []) (rest := [.int r]) hX 0 (kX7_entries hT hm) gL_law_X7_entries rfl hdX7_entries ⟨by decide, by decide⟩ rfl (Nat.le_of_ble_eq_true rfl) dL_law_665 ⟨hc, hs⟩ ?_
  rintro ov w' ⟨rfl, rfl⟩
  show JW X _ _ _ _ _ [.int r, .int r]
  exact jw_icmp_eq (tgt := 1307) hX dL_law_668 (by decide) (fun _ => kk) (fun h => absurd rfl h)
set_option maxRecDepth 100000 in
set_option maxHeartbeats 4000000 in
theorem lq_signAt {X : JX} {cells slots : Nat} {cI cZ cO cJ : ClassId} {gs : JP} {S : PS} {w : MW} {i b x a o L : Nat} {ad : Nat → Nat} {xs : Nat → Int32} {f : Nat → Int64} {p0 p1 p2 : Int32} {n7 : Nat} {Q : Int32 → PS → Prop} {Qx : Nat → PS → Prop} {REL : PS → MW → Prop} (hX : jOK X cL_law 7 wsL_law RL room_1) (hT : jT X = jTy cI cZ cO cJ) (hGX : jG X (GL gs)) (hB : jScr X b L xs) (hv1 : xs (nI i + 1).toNatClampNeg = p0) (hi1 : vp_in (nI i + 1) L) (hv2 : xs (nI i + 2).toNatClampNeg = p1) (hi2 : vp_in (nI i + 2) L) (hv3 : xs (nI i + 3).toNatClampNeg = p2) (hi3 : vp_in (nI i + 3) L) (hok : okP S x 6 = true) (hc : cells + 10 ≤ 601024) (hs : slots + 1000 ≤ 7293034)
    (hC : CX (jL X) (GP gs) (jD X) (jT X) yX6_signAt wsX6_signAt rmX6_signAt [.ref x, .int p0, .int p1, .int p2] (pW cI cO S) (fun ov w2 => ∃ (r : Int32) (w9 : PS), Q r w9 ∧ ov = some (.int r) ∧ w2 = pW cI cO w9) (fun E w2 => ∃ (z : Nat) (w9 : PS), Qx z w9 ∧ E = exN z ∧ w2 = pW cI cO w9)) (hqx : ∀ (z : Nat) (w9 : PS), Qx z w9 → z = 2 ∨ z = 0)
    (hM1 : ∀ (r : Int32) (w9 : PS), Q r w9 → ∃ w1 : MW, fX7_signAt n7 w p0 p1 p2 = some (r, w1) ∧ fX7_thrown w1 = some 0 ∧ REL w9 w1) (hM2 : ∀ (z : Nat) (w9 : PS), Qx z w9 → ∃ (r : Int32) (w1 : MW), fX7_signAt n7 w p0 p1 p2 = some (r, w1) ∧ fX7_thrown w1 = some (if z = 2 then (1 : Int32) else if z = 0 then (2 : Int32) else 0) ∧ REL w9 w1)
    (kk : ∀ (f1 : Nat → Int64) (S1 : PS) (w1 : MW), REL S1 w1 → JW X (cells + 10) (slots + 1000) (mW a ad cI cZ w1 ++ (o, oE cJ f1) :: pW cI cO S1) 1307 (lwL i b x a o) []) : JW X cells slots (mW a ad cI cZ w ++ (o, oE cJ f) :: pW cI cO S) 673 (lwL i b x a o) [] := by
  refine jw_aload_n hX dL_law_673 rfl 2 rfl ?_
  refine jw_aload_n hX dL_law_674 rfl 1 rfl ?_
  refine jw_iload hX dL_law_675 0 rfl ?_
  refine jw_iconst (v := (1 : Int32)) hX dL_law_677 (by decide) ?_
  refine jw_iadd hX dL_law_678 ?_
  refine jw_sld hX hB hi1 dL_law_679 ?_
  rw [hv1]
  refine jw_aload_n hX dL_law_680 rfl 1 rfl ?_
  refine jw_iload hX dL_law_681 0 rfl ?_
  refine jw_iconst (v := (2 : Int32)) hX dL_law_683 (by decide) ?_
  refine jw_iadd hX dL_law_684 ?_
  refine jw_sld hX hB hi2 dL_law_685 ?_
  rw [hv2]
  refine jw_aload_n hX dL_law_686 rfl 1 rfl ?_
  refine jw_iload hX dL_law_687 0 rfl ?_
  refine jw_iconst (v := (3 : Int32)) hX dL_law_689 (by decide) ?_
  refine jw_iadd hX dL_law_690 ?_
  refine jw_sld hX hB hi3 dL_law_691 ?_
  rw [hv3]
  refine jw_aload_n hX dL_law_692 rfl 4 rfl ?_
  refine jw_lS (As := [.ref x, .int p0, .int p1, .int p2, .ref o]) (rest := []) hX (GL_ok gs) hGX 5 (kL_signAt hT hok hC hqx) gL_law_L_signAt rfl (by decide) ⟨by decide, by decide⟩ rfl (Nat.le_of_ble_eq_true rfl) dL_law_693 ⟨lc9 hc (by decide), lc9 hs (by decide)⟩ ?_
  rintro ov w' (⟨r, w9, hq, rfl, rfl⟩ | ⟨z, w9, hq, rfl, rfl⟩)
  · refine jw_widen (cells + 10) (slots + 1000) (lc8 (by decide)) (lc8 (by decide)) ?_
    obtain ⟨w1, hm, hth, hrel⟩ := hM1 r w9 hq
    show JW X _ _ _ _ _ [.int 0]
    refine jw_istore hX [(5, .int 0), (4, .int (nI i)), (0, .ref b), (1, .ref x), (2, .ref a), (3, .ref o)] dL_law_696 (by decide) rfl ?_
    refine jw_aload_n hX dL_law_698 rfl 4 rfl ?_
    refine jw_aload_n hX dL_law_699 rfl 2 rfl ?_
    refine jw_iload hX dL_law_700 1 rfl ?_
    refine jw_iconst (v := (1 : Int32)) hX dL_law_702 (by decide) ?_
    refine jw_iadd hX dL_law_703 ?_
    refine jw_sld hX hB hi1 dL_law_704 ?_
    rw [hv1]
    refine jw_aload_n hX dL_law_705 rfl 2 rfl ?_
    refine jw_iload hX dL_law_706 1 rfl ?_
    refine jw_iconst (v := (2 : Int32)) hX dL_law_708 (by decide) ?_
    refine jw_iadd hX dL_law_709 ?_
    refine jw_sld hX hB hi2 dL_law_710 ?_
    rw [hv2]
    refine jw_aload_n hX dL_law_711 rfl 2 rfl ?_
    refine jw_iload hX dL_law_712 1 rfl ?_
    refine jw_iconst (v := (3 : Int32)) hX dL_law_714 (by decide) ?_
    refine jw_iadd hX dL_law_715 ?_
    refine jw_sld hX hB hi3 dL_law_716 ?_
    rw [hv3]
    refine jw_lM (As := [.int p0, .int p1, .int p2]) (rest := []) hX 3 (kX7_signAt hT hm) gL_law_X7_signAt rfl hdX7_signAt ⟨by decide, by decide⟩ rfl (Nat.le_of_ble_eq_true rfl) dL_law_717 ⟨hc, hs⟩ ?_
    rintro ov w' ⟨rfl, rfl⟩
    show JW X _ _ _ _ _ [.int r]
    refine jw_istore hX [(6, .int r), (5, .int 0), (4, .int (nI i)), (0, .ref b), (1, .ref x), (2, .ref a), (3, .ref o)] dL_law_720 (by decide) rfl ?_
    refine jw_aload_n hX dL_law_722 rfl 5 rfl ?_
    refine jw_lM (As := []) (rest := []) hX 0 (kX7_thrown hT hth) gL_law_X7_thrown rfl hdX7_thrown ⟨by decide, by decide⟩ rfl (Nat.le_of_ble_eq_true rfl) dL_law_723 ⟨hc, hs⟩ ?_
    rintro ov w' ⟨rfl, rfl⟩
    show JW X _ _ _ _ _ [.int 0]
    refine jw_iload hX dL_law_726 1 rfl ?_
    refine jw_icmp_eq (tgt := 733) hX dL_law_728 (by decide) (fun _ => ?_) (fun h => absurd rfl h)
    refine jw_iload hX dL_law_733 1 rfl ?_
    refine jw_if_ne (tgt := 750) hX dL_law_735 (by decide) (fun h => absurd rfl h) (fun _ => ?_)
    refine jw_aload_n hX dL_law_738 rfl 6 rfl ?_
    refine jw_iconst (v := 0) hX dL_law_739 (by decide) ?_
    refine jw_olald hX hT dL_law_740 ?_
    rw [vp_updL0]
    refine jw_iload hX dL_law_741 0 rfl ?_
    refine jw_i2l (v := r.toInt64) hX dL_law_743 rfl ?_
    refine jw_lcmpeq (d := 0) hX dL_law_744 rfl ?_
    refine jw_if_eq (tgt := 750) hX dL_law_745 (by decide) (fun _ => ?_) (fun h => absurd rfl h)
    refine jw_goto (tgt := 1307) hX dL_law_750 (by decide) ?_
    refine jw_sub [2, 3, 4, 5, 6] (lwL i b x a o) rfl ?_
    exact kk _ _ _ hrel
  · refine jw_widen (cells + 10) (slots + 1000) (lc8 (by decide)) (lc8 (by decide)) ?_
    obtain ⟨r, w1, hm, hth, hrel⟩ := hM2 z w9 hq
    show JW X _ _ _ _ _ [.int (if z = 2 then (1 : Int32) else if z = 0 then (2 : Int32) else 0)]
    refine jw_istore hX [(5, .int (if z = 2 then (1 : Int32) else if z = 0 then (2 : Int32) else 0)), (4, .int (nI i)), (0, .ref b), (1, .ref x), (2, .ref a), (3, .ref o)] dL_law_696 (by decide) rfl ?_
    refine jw_aload_n hX dL_law_698 rfl 4 rfl ?_
    refine jw_aload_n hX dL_law_699 rfl 2 rfl ?_
    refine jw_iload hX dL_law_700 1 rfl ?_
    refine jw_iconst (v := (1 : Int32)) hX dL_law_702 (by decide) ?_
    refine jw_iadd hX dL_law_703 ?_
    refine jw_sld hX hB hi1 dL_law_704 ?_
    rw [hv1]
    refine jw_aload_n hX dL_law_705 rfl 2 rfl ?_
    refine jw_iload hX dL_law_706 1 rfl ?_
    refine jw_iconst (v := (2 : Int32)) hX dL_law_708 (by decide) ?_
    refine jw_iadd hX dL_law_709 ?_
    refine jw_sld hX hB hi2 dL_law_710 ?_
    rw [hv2]
    refine jw_aload_n hX dL_law_711 rfl 2 rfl ?_
    refine jw_iload hX dL_law_712 1 rfl ?_
    refine jw_iconst (v := (3 : Int32)) hX dL_law_714 (by decide) ?_
    refine jw_iadd hX dL_law_715 ?_
    refine jw_sld hX hB hi3 dL_law_716 ?_
    rw [hv3]
    refine jw_lM (As := [.int p0, .int p1, .int p2]) (rest := []) hX 3 (kX7_signAt hT hm) gL_law_X7_signAt rfl hdX7_signAt ⟨by decide, by decide⟩ rfl (Nat.le_of_ble_eq_true rfl) dL_law_717 ⟨hc, hs⟩ ?_
    rintro ov w' ⟨rfl, rfl⟩
    show JW X _ _ _ _ _ [.int r]
    refine jw_istore hX [(6, .int r), (5, .int (if z = 2 then (1 : Int32) else if z = 0 then (2 : Int32) else 0)), (4, .int (nI i)), (0, .ref b), (1, .ref x), (2, .ref a), (3, .ref o)] dL_law_720 (by decide) rfl ?_
    refine jw_aload_n hX dL_law_722 rfl 5 rfl ?_
    refine jw_lM (As := []) (rest := []) hX 0 (kX7_thrown hT hth) gL_law_X7_thrown rfl hdX7_thrown ⟨by decide, by decide⟩ rfl (Nat.le_of_ble_eq_true rfl) dL_law_723 ⟨hc, hs⟩ ?_
    rintro ov w' ⟨rfl, rfl⟩
    show JW X _ _ _ _ _ [.int (if z = 2 then (1 : Int32) else if z = 0 then (2 : Int32) else 0)]
    refine jw_iload hX dL_law_726 1 rfl ?_
    refine jw_icmp_eq (tgt := 733) hX dL_law_728 (by decide) (fun _ => ?_) (fun h => absurd rfl h)
    refine jw_iload hX dL_law_733 1 rfl ?_
    refine jw_if_ne (tgt := 750) hX dL_law_735 (by decide) (fun _ => ?_) (fun h => ?_)
    · refine jw_goto (tgt := 1307) hX dL_law_750 (by decide) ?_
      refine jw_sub [2, 3, 4, 5, 6] (lwL i b x a o) rfl ?_
      exact kk _ _ _ hrel
    · exfalso
      rcases hqx z w9 hq with rfl | rfl
      all_goals exact absurd h (by decide)
set_option maxRecDepth 100000 in
set_option maxHeartbeats 4000000 in
theorem lq_length {X : JX} {cells slots : Nat} {cI cZ cO cJ : ClassId} {gs : JP} {S : PS} {w : MW} {i b x a o L : Nat} {ad : Nat → Nat} {xs : Nat → Int32} {f : Nat → Int64} {p0 p1 : Int32} {n7 : Nat} {Q : Int32 → PS → Prop} {Qx : Nat → PS → Prop} {REL : PS → MW → Prop} (hX : jOK X cL_law 7 wsL_law RL room_1) (hT : jT X = jTy cI cZ cO cJ) (hGX : jG X (GL gs)) (hB : jScr X b L xs) (hv1 : xs (nI i + 1).toNatClampNeg = p0) (hi1 : vp_in (nI i + 1) L) (hv2 : xs (nI i + 2).toNatClampNeg = p1) (hi2 : vp_in (nI i + 2) L) (hok : okP S x 6 = true) (hc : cells + 10 ≤ 601024) (hs : slots + 1000 ≤ 7293034)
    (hC : CX (jL X) (GP gs) (jD X) (jT X) yX6_length wsX6_length rmX6_length [.ref x, .int p0, .int p1] (pW cI cO S) (fun ov w2 => ∃ (r : Int32) (w9 : PS), Q r w9 ∧ ov = some (.int r) ∧ w2 = pW cI cO w9) (fun E w2 => ∃ (z : Nat) (w9 : PS), Qx z w9 ∧ E = exN z ∧ w2 = pW cI cO w9)) (hqx : ∀ (z : Nat) (w9 : PS), Qx z w9 → z = 2 ∨ z = 0)
    (hM1 : ∀ (r : Int32) (w9 : PS), Q r w9 → ∃ w1 : MW, fX7_length n7 w p0 p1 = some (r, w1) ∧ fX7_thrown w1 = some 0 ∧ REL w9 w1) (hM2 : ∀ (z : Nat) (w9 : PS), Qx z w9 → ∃ (r : Int32) (w1 : MW), fX7_length n7 w p0 p1 = some (r, w1) ∧ fX7_thrown w1 = some (if z = 2 then (1 : Int32) else if z = 0 then (2 : Int32) else 0) ∧ REL w9 w1)
    (kk : ∀ (f1 : Nat → Int64) (S1 : PS) (w1 : MW), REL S1 w1 → JW X (cells + 10) (slots + 1000) (mW a ad cI cZ w1 ++ (o, oE cJ f1) :: pW cI cO S1) 1307 (lwL i b x a o) []) : JW X cells slots (mW a ad cI cZ w ++ (o, oE cJ f) :: pW cI cO S) 753 (lwL i b x a o) [] := by
  refine jw_aload_n hX dL_law_753 rfl 2 rfl ?_
  refine jw_aload_n hX dL_law_754 rfl 1 rfl ?_
  refine jw_iload hX dL_law_755 0 rfl ?_
  refine jw_iconst (v := (1 : Int32)) hX dL_law_757 (by decide) ?_
  refine jw_iadd hX dL_law_758 ?_
  refine jw_sld hX hB hi1 dL_law_759 ?_
  rw [hv1]
  refine jw_aload_n hX dL_law_760 rfl 1 rfl ?_
  refine jw_iload hX dL_law_761 0 rfl ?_
  refine jw_iconst (v := (2 : Int32)) hX dL_law_763 (by decide) ?_
  refine jw_iadd hX dL_law_764 ?_
  refine jw_sld hX hB hi2 dL_law_765 ?_
  rw [hv2]
  refine jw_aload_n hX dL_law_766 rfl 4 rfl ?_
  refine jw_lS (As := [.ref x, .int p0, .int p1, .ref o]) (rest := []) hX (GL_ok gs) hGX 4 (kL_length hT hok hC hqx) gL_law_L_length rfl (by decide) ⟨by decide, by decide⟩ rfl (Nat.le_of_ble_eq_true rfl) dL_law_767 ⟨lc9 hc (by decide), lc9 hs (by decide)⟩ ?_
  rintro ov w' (⟨r, w9, hq, rfl, rfl⟩ | ⟨z, w9, hq, rfl, rfl⟩)
  · refine jw_widen (cells + 10) (slots + 1000) (lc8 (by decide)) (lc8 (by decide)) ?_
    obtain ⟨w1, hm, hth, hrel⟩ := hM1 r w9 hq
    show JW X _ _ _ _ _ [.int 0]
    refine jw_istore hX [(5, .int 0), (4, .int (nI i)), (0, .ref b), (1, .ref x), (2, .ref a), (3, .ref o)] dL_law_770 (by decide) rfl ?_
    refine jw_aload_n hX dL_law_772 rfl 4 rfl ?_
    refine jw_aload_n hX dL_law_773 rfl 2 rfl ?_
    refine jw_iload hX dL_law_774 1 rfl ?_
    refine jw_iconst (v := (1 : Int32)) hX dL_law_776 (by decide) ?_
    refine jw_iadd hX dL_law_777 ?_
    refine jw_sld hX hB hi1 dL_law_778 ?_
    rw [hv1]
    refine jw_aload_n hX dL_law_779 rfl 2 rfl ?_
    refine jw_iload hX dL_law_780 1 rfl ?_
    refine jw_iconst (v := (2 : Int32)) hX dL_law_782 (by decide) ?_
    refine jw_iadd hX dL_law_783 ?_
    refine jw_sld hX hB hi2 dL_law_784 ?_
    rw [hv2]
    refine jw_lM (As := [.int p0, .int p1]) (rest := []) hX 2 (kX7_length hT hm) gL_law_X7_length rfl hdX7_length ⟨by decide, by decide⟩ rfl (Nat.le_of_ble_eq_true rfl) dL_law_785 ⟨hc, hs⟩ ?_
    rintro ov w' ⟨rfl, rfl⟩
    show JW X _ _ _ _ _ [.int r]
    refine jw_istore hX [(6, .int r), (5, .int 0), (4, .int (nI i)), (0, .ref b), (1, .ref x), (2, .ref a), (3, .ref o)] dL_law_788 (by decide) rfl ?_
    refine jw_aload_n hX dL_law_790 rfl 5 rfl ?_
    refine jw_lM (As := []) (rest := []) hX 0 (kX7_thrown hT hth) gL_law_X7_thrown rfl hdX7_thrown ⟨by decide, by decide⟩ rfl (Nat.le_of_ble_eq_true rfl) dL_law_791 ⟨hc, hs⟩ ?_
    rintro ov w' ⟨rfl, rfl⟩
    show JW X _ _ _ _ _ [.int 0]
    refine jw_iload hX dL_law_794 1 rfl ?_
    refine jw_icmp_eq (tgt := 801) hX dL_law_796 (by decide) (fun _ => ?_) (fun h => absurd rfl h)
    refine jw_iload hX dL_law_801 1 rfl ?_
    refine jw_if_ne (tgt := 818) hX dL_law_803 (by decide) (fun h => absurd rfl h) (fun _ => ?_)
    refine jw_aload_n hX dL_law_806 rfl 6 rfl ?_
    refine jw_iconst (v := 0) hX dL_law_807 (by decide) ?_
    refine jw_olald hX hT dL_law_808 ?_
    rw [vp_updL0]
    refine jw_iload hX dL_law_809 0 rfl ?_
    refine jw_i2l (v := r.toInt64) hX dL_law_811 rfl ?_
    refine jw_lcmpeq (d := 0) hX dL_law_812 rfl ?_
    refine jw_if_eq (tgt := 818) hX dL_law_813 (by decide) (fun _ => ?_) (fun h => absurd rfl h)
    refine jw_goto (tgt := 1307) hX dL_law_818 (by decide) ?_
    refine jw_sub [2, 3, 4, 5, 6] (lwL i b x a o) rfl ?_
    exact kk _ _ _ hrel
  · refine jw_widen (cells + 10) (slots + 1000) (lc8 (by decide)) (lc8 (by decide)) ?_
    obtain ⟨r, w1, hm, hth, hrel⟩ := hM2 z w9 hq
    show JW X _ _ _ _ _ [.int (if z = 2 then (1 : Int32) else if z = 0 then (2 : Int32) else 0)]
    refine jw_istore hX [(5, .int (if z = 2 then (1 : Int32) else if z = 0 then (2 : Int32) else 0)), (4, .int (nI i)), (0, .ref b), (1, .ref x), (2, .ref a), (3, .ref o)] dL_law_770 (by decide) rfl ?_
    refine jw_aload_n hX dL_law_772 rfl 4 rfl ?_
    refine jw_aload_n hX dL_law_773 rfl 2 rfl ?_
    refine jw_iload hX dL_law_774 1 rfl ?_
    refine jw_iconst (v := (1 : Int32)) hX dL_law_776 (by decide) ?_
    refine jw_iadd hX dL_law_777 ?_
    refine jw_sld hX hB hi1 dL_law_778 ?_
    rw [hv1]
    refine jw_aload_n hX dL_law_779 rfl 2 rfl ?_
    refine jw_iload hX dL_law_780 1 rfl ?_
    refine jw_iconst (v := (2 : Int32)) hX dL_law_782 (by decide) ?_
    refine jw_iadd hX dL_law_783 ?_
    refine jw_sld hX hB hi2 dL_law_784 ?_
    rw [hv2]
    refine jw_lM (As := [.int p0, .int p1]) (rest := []) hX 2 (kX7_length hT hm) gL_law_X7_length rfl hdX7_length ⟨by decide, by decide⟩ rfl (Nat.le_of_ble_eq_true rfl) dL_law_785 ⟨hc, hs⟩ ?_
    rintro ov w' ⟨rfl, rfl⟩
    show JW X _ _ _ _ _ [.int r]
    refine jw_istore hX [(6, .int r), (5, .int (if z = 2 then (1 : Int32) else if z = 0 then (2 : Int32) else 0)), (4, .int (nI i)), (0, .ref b), (1, .ref x), (2, .ref a), (3, .ref o)] dL_law_788 (by decide) rfl ?_
    refine jw_aload_n hX dL_law_790 rfl 5 rfl ?_
    refine jw_lM (As := []) (rest := []) hX 0 (kX7_thrown hT hth) gL_law_X7_thrown rfl hdX7_thrown ⟨by decide, by decide⟩ rfl (Nat.le_of_ble_eq_true rfl) dL_law_791 ⟨hc, hs⟩ ?_
    rintro ov w' ⟨rfl, rfl⟩
    show JW X _ _ _ _ _ [.int (if z = 2 then (1 : Int32) else if z = 0 then (2 : Int32) else 0)]
    refine jw_iload hX dL_law_794 1 rfl ?_
    refine jw_icmp_eq (tgt := 801) hX dL_law_796 (by decide) (fun _ => ?_) (fun h => absurd rfl h)
    refine jw_iload hX dL_law_801 1 rfl ?_
    refine jw_if_ne (tgt := 818) hX dL_law_803 (by decide) (fun _ => ?_) (fun h => ?_)
    · refine jw_goto (tgt := 1307) hX dL_law_818 (by decide) ?_
      refine jw_sub [2, 3, 4, 5, 6] (lwL i b x a o) rfl ?_
      exact kk _ _ _ hrel
    · exfalso
      rcases hqx z w9 hq with rfl | rfl
      all_goals exact absurd h (by decide)
set_option maxRecDepth 100000 in
set_option maxHeartbeats 4000000 in
theorem lq_proof {X : JX} {cells slots : Nat} {cI cZ cO cJ : ClassId} {gs : JP} {S : PS} {w : MW} {i b x a o L : Nat} {ad : Nat → Nat} {xs : Nat → Int32} {f : Nat → Int64} {p0 : Int32} {Q : Int32 → PS → Prop} {Qx : Nat → PS → Prop} {REL : PS → MW → Prop} (hX : jOK X cL_law 7 wsL_law RL room_1) (hT : jT X = jTy cI cZ cO cJ) (hGX : jG X (GL gs)) (hB : jScr X b L xs) (hv1 : xs (nI i + 1).toNatClampNeg = p0) (hi1 : vp_in (nI i + 1) L) (hok : okP S x 6 = true) (hc : cells + 10 ≤ 601024) (hs : slots + 1000 ≤ 7293034)
    (hC : CX (jL X) (GP gs) (jD X) (jT X) yX6_proof wsX6_proof rmX6_proof [.ref x, .int p0] (pW cI cO S) (fun ov w2 => ∃ (r : Int32) (w9 : PS), Q r w9 ∧ ov = some (.int r) ∧ w2 = pW cI cO w9) (fun E w2 => ∃ (z : Nat) (w9 : PS), Qx z w9 ∧ E = exN z ∧ w2 = pW cI cO w9)) (hqx : ∀ (z : Nat) (w9 : PS), Qx z w9 → z = 2)
    (hM1 : ∀ (r : Int32) (w9 : PS), Q r w9 → ∃ w1 : MW, fX7_proof w p0 = some (r, w1) ∧ fX7_thrown w1 = some 0 ∧ REL w9 w1) (hM2 : ∀ (z : Nat) (w9 : PS), Qx z w9 → ∃ (r : Int32) (w1 : MW), fX7_proof w p0 = some (r, w1) ∧ fX7_thrown w1 = some (if z = 2 then (1 : Int32) else 0) ∧ REL w9 w1)
    (kk : ∀ (f1 : Nat → Int64) (S1 : PS) (w1 : MW), REL S1 w1 → JW X (cells + 10) (slots + 1000) (mW a ad cI cZ w1 ++ (o, oE cJ f1) :: pW cI cO S1) 1307 (lwL i b x a o) []) : JW X cells slots (mW a ad cI cZ w ++ (o, oE cJ f) :: pW cI cO S) 821 (lwL i b x a o) [] := by
  refine jw_aload_n hX dL_law_821 rfl 2 rfl ?_
  refine jw_aload_n hX dL_law_822 rfl 1 rfl ?_
  refine jw_iload hX dL_law_823 0 rfl ?_
  refine jw_iconst (v := (1 : Int32)) hX dL_law_825 (by decide) ?_
  refine jw_iadd hX dL_law_826 ?_
  refine jw_sld hX hB hi1 dL_law_827 ?_
  rw [hv1]
  refine jw_aload_n hX dL_law_828 rfl 4 rfl ?_
  refine jw_lS (As := [.ref x, .int p0, .ref o]) (rest := []) hX (GL_ok gs) hGX 3 (kL_proof hT hok hC hqx) gL_law_L_proof rfl (by decide) ⟨by decide, by decide⟩ rfl (Nat.le_of_ble_eq_true rfl) dL_law_829 ⟨lc9 hc (by decide), lc9 hs (by decide)⟩ ?_
  rintro ov w' (⟨r, w9, hq, rfl, rfl⟩ | ⟨z, w9, hq, rfl, rfl⟩)
  · refine jw_widen (cells + 10) (slots + 1000) (lc8 (by decide)) (lc8 (by decide)) ?_
    obtain ⟨w1, hm, hth, hrel⟩ := hM1 r w9 hq
    show JW X _ _ _ _ _ [.int 0]
    refine jw_istore hX [(5, .int 0), (4, .int (nI i)), (0, .ref b), (1, .ref x), (2, .ref a), (3, .ref o)] dL_law_832 (by decide) rfl ?_
    refine jw_aload_n hX dL_law_834 rfl 4 rfl ?_
    refine jw_aload_n hX dL_law_835 rfl 2 rfl ?_
    refine jw_iload hX dL_law_836 1 rfl ?_
    refine jw_iconst (v := (1 : Int32)) hX dL_law_838 (by decide) ?_
    refine jw_iadd hX dL_law_839 ?_
    refine jw_sld hX hB hi1 dL_law_840 ?_
    rw [hv1]
    refine jw_lM (As := [.int p0]) (rest := []) hX 1 (kX7_proof hT hm) gL_law_X7_proof rfl hdX7_proof ⟨by decide, by decide⟩ rfl (Nat.le_of_ble_eq_true rfl) dL_law_841 ⟨hc, hs⟩ ?_
    rintro ov w' ⟨rfl, rfl⟩
    show JW X _ _ _ _ _ [.int r]
    refine jw_istore hX [(6, .int r), (5, .int 0), (4, .int (nI i)), (0, .ref b), (1, .ref x), (2, .ref a), (3, .ref o)] dL_law_844 (by decide) rfl ?_
    refine jw_aload_n hX dL_law_846 rfl 5 rfl ?_
    refine jw_lM (As := []) (rest := []) hX 0 (kX7_thrown hT hth) gL_law_X7_thrown rfl hdX7_thrown ⟨by decide, by decide⟩ rfl (Nat.le_of_ble_eq_true rfl) dL_law_847 ⟨hc, hs⟩ ?_
    rintro ov w' ⟨rfl, rfl⟩
    show JW X _ _ _ _ _ [.int 0]
    refine jw_iload hX dL_law_850 1 rfl ?_
    refine jw_icmp_eq (tgt := 857) hX dL_law_852 (by decide) (fun _ => ?_) (fun h => absurd rfl h)
    refine jw_iload hX dL_law_857 1 rfl ?_
    refine jw_if_ne (tgt := 874) hX dL_law_859 (by decide) (fun h => absurd rfl h) (fun _ => ?_)
    refine jw_aload_n hX dL_law_862 rfl 6 rfl ?_
    refine jw_iconst (v := 0) hX dL_law_863 (by decide) ?_
    refine jw_olald hX hT dL_law_864 ?_
    rw [vp_updL0]
    refine jw_iload hX dL_law_865 0 rfl ?_
    refine jw_i2l (v := r.toInt64) hX dL_law_867 rfl ?_
    refine jw_lcmpeq (d := 0) hX dL_law_868 rfl ?_
    refine jw_if_eq (tgt := 874) hX dL_law_869 (by decide) (fun _ => ?_) (fun h => absurd rfl h)
    refine jw_goto (tgt := 1307) hX dL_law_874 (by decide) ?_
    refine jw_sub [2, 3, 4, 5, 6] (lwL i b x a o) rfl ?_
    exact kk _ _ _ hrel
  · refine jw_widen (cells + 10) (slots + 1000) (lc8 (by decide)) (lc8 (by decide)) ?_
    obtain ⟨r, w1, hm, hth, hrel⟩ := hM2 z w9 hq
    show JW X _ _ _ _ _ [.int (if z = 2 then (1 : Int32) else 0)]
    refine jw_istore hX [(5, .int (if z = 2 then (1 : Int32) else 0)), (4, .int (nI i)), (0, .ref b), (1, .ref x), (2, .ref a), (3, .ref o)] dL_law_832 (by decide) rfl ?_
    refine jw_aload_n hX dL_law_834 rfl 4 rfl ?_
    refine jw_aload_n hX dL_law_835 rfl 2 rfl ?_
    refine jw_iload hX dL_law_836 1 rfl ?_
    refine jw_iconst (v := (1 : Int32)) hX dL_law_838 (by decide) ?_
    refine jw_iadd hX dL_law_839 ?_
    refine jw_sld hX hB hi1 dL_law_840 ?_
    rw [hv1]
    refine jw_lM (As := [.int p0]) (rest := []) hX 1 (kX7_proof hT hm) gL_law_X7_proof rfl hdX7_proof ⟨by decide, by decide⟩ rfl (Nat.le_of_ble_eq_true rfl) dL_law_841 ⟨hc, hs⟩ ?_
    rintro ov w' ⟨rfl, rfl⟩
    show JW X _ _ _ _ _ [.int r]
    refine jw_istore hX [(6, .int r), (5, .int (if z = 2 then (1 : Int32) else 0)), (4, .int (nI i)), (0, .ref b), (1, .ref x), (2, .ref a), (3, .ref o)] dL_law_844 (by decide) rfl ?_
    refine jw_aload_n hX dL_law_846 rfl 5 rfl ?_
    refine jw_lM (As := []) (rest := []) hX 0 (kX7_thrown hT hth) gL_law_X7_thrown rfl hdX7_thrown ⟨by decide, by decide⟩ rfl (Nat.le_of_ble_eq_true rfl) dL_law_847 ⟨hc, hs⟩ ?_
    rintro ov w' ⟨rfl, rfl⟩
    show JW X _ _ _ _ _ [.int (if z = 2 then (1 : Int32) else 0)]
    refine jw_iload hX dL_law_850 1 rfl ?_
    refine jw_icmp_eq (tgt := 857) hX dL_law_852 (by decide) (fun _ => ?_) (fun h => absurd rfl h)
    refine jw_iload hX dL_law_857 1 rfl ?_
    refine jw_if_ne (tgt := 874) hX dL_law_859 (by decide) (fun _ => ?_) (fun h => ?_)
    · refine jw_goto (tgt := 1307) hX dL_law_874 (by decide) ?_
      refine jw_sub [2, 3, 4, 5, 6] (lwL i b x a o) rfl ?_
      exact kk _ _ _ hrel
    · exfalso
      rcases hqx z w9 hq with rfl
      all_goals exact absurd h (by decide)
set_option maxRecDepth 100000 in
set_option maxHeartbeats 4000000 in
theorem lq_proofAnew {X : JX} {cells slots : Nat} {cI cZ cO cJ : ClassId} {gs : JP} {S : PS} {w : MW} {i b x a o L : Nat} {ad : Nat → Nat} {xs : Nat → Int32} {f : Nat → Int64} {p0 : Int32} {Q : Int32 → PS → Prop} {Qx : Nat → PS → Prop} {REL : PS → MW → Prop} (hX : jOK X cL_law 7 wsL_law RL room_1) (hT : jT X = jTy cI cZ cO cJ) (hGX : jG X (GL gs)) (hB : jScr X b L xs) (hv1 : xs (nI i + 1).toNatClampNeg = p0) (hi1 : vp_in (nI i + 1) L) (hok : okP S x 6 = true) (hc : cells + 10 ≤ 601024) (hs : slots + 1000 ≤ 7293034)
    (hC : CX (jL X) (GP gs) (jD X) (jT X) yX6_proofAnew wsX6_proofAnew rmX6_proofAnew [.ref x, .int p0] (pW cI cO S) (fun ov w2 => ∃ (r : Int32) (w9 : PS), Q r w9 ∧ ov = some (.int r) ∧ w2 = pW cI cO w9) (fun E w2 => ∃ (z : Nat) (w9 : PS), Qx z w9 ∧ E = exN z ∧ w2 = pW cI cO w9)) (hqx : ∀ (z : Nat) (w9 : PS), Qx z w9 → z = 2)
    (hM1 : ∀ (r : Int32) (w9 : PS), Q r w9 → ∃ w1 : MW, fX7_proofAnew w p0 = some (r, w1) ∧ fX7_thrown w1 = some 0 ∧ REL w9 w1) (hM2 : ∀ (z : Nat) (w9 : PS), Qx z w9 → ∃ (r : Int32) (w1 : MW), fX7_proofAnew w p0 = some (r, w1) ∧ fX7_thrown w1 = some (if z = 2 then (1 : Int32) else 0) ∧ REL w9 w1)
    (kk : ∀ (f1 : Nat → Int64) (S1 : PS) (w1 : MW), REL S1 w1 → JW X (cells + 10) (slots + 1000) (mW a ad cI cZ w1 ++ (o, oE cJ f1) :: pW cI cO S1) 1307 (lwL i b x a o) []) : JW X cells slots (mW a ad cI cZ w ++ (o, oE cJ f) :: pW cI cO S) 877 (lwL i b x a o) [] := by
  refine jw_aload_n hX dL_law_877 rfl 2 rfl ?_
  refine jw_aload_n hX dL_law_878 rfl 1 rfl ?_
  refine jw_iload hX dL_law_879 0 rfl ?_
  refine jw_iconst (v := (1 : Int32)) hX dL_law_881 (by decide) ?_
  refine jw_iadd hX dL_law_882 ?_
  refine jw_sld hX hB hi1 dL_law_883 ?_
  rw [hv1]
  refine jw_aload_n hX dL_law_884 rfl 4 rfl ?_
  refine jw_lS (As := [.ref x, .int p0, .ref o]) (rest := []) hX (GL_ok gs) hGX 3 (kL_proofAnew hT hok hC hqx) gL_law_L_proofAnew rfl (by decide) ⟨by decide, by decide⟩ rfl (Nat.le_of_ble_eq_true rfl) dL_law_885 ⟨lc9 hc (by decide), lc9 hs (by decide)⟩ ?_
  rintro ov w' (⟨r, w9, hq, rfl, rfl⟩ | ⟨z, w9, hq, rfl, rfl⟩)
  · refine jw_widen (cells + 10) (slots + 1000) (lc8 (by decide)) (lc8 (by decide)) ?_
    obtain ⟨w1, hm, hth, hrel⟩ := hM1 r w9 hq
    show JW X _ _ _ _ _ [.int 0]
    refine jw_istore hX [(5, .int 0), (4, .int (nI i)), (0, .ref b), (1, .ref x), (2, .ref a), (3, .ref o)] dL_law_888 (by decide) rfl ?_
    refine jw_aload_n hX dL_law_890 rfl 4 rfl ?_
    refine jw_aload_n hX dL_law_891 rfl 2 rfl ?_
    refine jw_iload hX dL_law_892 1 rfl ?_
    refine jw_iconst (v := (1 : Int32)) hX dL_law_894 (by decide) ?_
    refine jw_iadd hX dL_law_895 ?_
    refine jw_sld hX hB hi1 dL_law_896 ?_
    rw [hv1]
    refine jw_lM (As := [.int p0]) (rest := []) hX 1 (kX7_proofAnew hT hm) gL_law_X7_proofAnew rfl hdX7_proofAnew ⟨by decide, by decide⟩ rfl (Nat.le_of_ble_eq_true rfl) dL_law_897 ⟨hc, hs⟩ ?_
    rintro ov w' ⟨rfl, rfl⟩
    show JW X _ _ _ _ _ [.int r]
    refine jw_istore hX [(6, .int r), (5, .int 0), (4, .int (nI i)), (0, .ref b), (1, .ref x), (2, .ref a), (3, .ref o)] dL_law_900 (by decide) rfl ?_
    refine jw_aload_n hX dL_law_902 rfl 5 rfl ?_
    refine jw_lM (As := []) (rest := []) hX 0 (kX7_thrown hT hth) gL_law_X7_thrown rfl hdX7_thrown ⟨by decide, by decide⟩ rfl (Nat.le_of_ble_eq_true rfl) dL_law_903 ⟨hc, hs⟩ ?_
    rintro ov w' ⟨rfl, rfl⟩
    show JW X _ _ _ _ _ [.int 0]
    refine jw_iload hX dL_law_906 1 rfl ?_
    refine jw_icmp_eq (tgt := 913) hX dL_law_908 (by decide) (fun _ => ?_) (fun h => absurd rfl h)
    refine jw_iload hX dL_law_913 1 rfl ?_
    refine jw_if_ne (tgt := 930) hX dL_law_915 (by decide) (fun h => absurd rfl h) (fun _ => ?_)
    refine jw_aload_n hX dL_law_918 rfl 6 rfl ?_
    refine jw_iconst (v := 0) hX dL_law_919 (by decide) ?_
    refine jw_olald hX hT dL_law_920 ?_
    rw [vp_updL0]
    refine jw_iload hX dL_law_921 0 rfl ?_
    refine jw_i2l (v := r.toInt64) hX dL_law_923 rfl ?_
    refine jw_lcmpeq (d := 0) hX dL_law_924 rfl ?_
    refine jw_if_eq (tgt := 930) hX dL_law_925 (by decide) (fun _ => ?_) (fun h => absurd rfl h)
    refine jw_goto (tgt := 1307) hX dL_law_930 (by decide) ?_
    refine jw_sub [2, 3, 4, 5, 6] (lwL i b x a o) rfl ?_
    exact kk _ _ _ hrel
  · refine jw_widen (cells + 10) (slots + 1000) (lc8 (by decide)) (lc8 (by decide)) ?_
    obtain ⟨r, w1, hm, hth, hrel⟩ := hM2 z w9 hq
    show JW X _ _ _ _ _ [.int (if z = 2 then (1 : Int32) else 0)]
    refine jw_istore hX [(5, .int (if z = 2 then (1 : Int32) else 0)), (4, .int (nI i)), (0, .ref b), (1, .ref x), (2, .ref a), (3, .ref o)] dL_law_888 (by decide) rfl ?_
    refine jw_aload_n hX dL_law_890 rfl 4 rfl ?_
    refine jw_aload_n hX dL_law_891 rfl 2 rfl ?_
    refine jw_iload hX dL_law_892 1 rfl ?_
    refine jw_iconst (v := (1 : Int32)) hX dL_law_894 (by decide) ?_
    refine jw_iadd hX dL_law_895 ?_
    refine jw_sld hX hB hi1 dL_law_896 ?_
    rw [hv1]
    refine jw_lM (As := [.int p0]) (rest := []) hX 1 (kX7_proofAnew hT hm) gL_law_X7_proofAnew rfl hdX7_proofAnew ⟨by decide, by decide⟩ rfl (Nat.le_of_ble_eq_true rfl) dL_law_897 ⟨hc, hs⟩ ?_
    rintro ov w' ⟨rfl, rfl⟩
    show JW X _ _ _ _ _ [.int r]
    refine jw_istore hX [(6, .int r), (5, .int (if z = 2 then (1 : Int32) else 0)), (4, .int (nI i)), (0, .ref b), (1, .ref x), (2, .ref a), (3, .ref o)] dL_law_900 (by decide) rfl ?_
    refine jw_aload_n hX dL_law_902 rfl 5 rfl ?_
    refine jw_lM (As := []) (rest := []) hX 0 (kX7_thrown hT hth) gL_law_X7_thrown rfl hdX7_thrown ⟨by decide, by decide⟩ rfl (Nat.le_of_ble_eq_true rfl) dL_law_903 ⟨hc, hs⟩ ?_
    rintro ov w' ⟨rfl, rfl⟩
    show JW X _ _ _ _ _ [.int (if z = 2 then (1 : Int32) else 0)]
    refine jw_iload hX dL_law_906 1 rfl ?_
    refine jw_icmp_eq (tgt := 913) hX dL_law_908 (by decide) (fun _ => ?_) (fun h => absurd rfl h)
    refine jw_iload hX dL_law_913 1 rfl ?_
    refine jw_if_ne (tgt := 930) hX dL_law_915 (by decide) (fun _ => ?_) (fun h => ?_)
    · refine jw_goto (tgt := 1307) hX dL_law_930 (by decide) ?_
      refine jw_sub [2, 3, 4, 5, 6] (lwL i b x a o) rfl ?_
      exact kk _ _ _ hrel
    · exfalso
      rcases hqx z w9 hq with rfl
      all_goals exact absurd h (by decide)
set_option maxRecDepth 100000 in
set_option maxHeartbeats 4000000 in
theorem lq_gets {X : JX} {cells slots : Nat} {cI cZ cO cJ : ClassId} {gs : JP} {S : PS} {w : MW} {i b x a o L : Nat} {ad : Nat → Nat} {xs : Nat → Int32} {f : Nat → Int64} {p0 p1 : Int32} {n7 : Nat} {Q : Int32 → PS → Prop} {Qx : Nat → PS → Prop} {REL : PS → MW → Prop} (hX : jOK X cL_law 7 wsL_law RL room_1) (hT : jT X = jTy cI cZ cO cJ) (hGX : jG X (GL gs)) (hB : jScr X b L xs) (hv1 : xs (nI i + 1).toNatClampNeg = p0) (hi1 : vp_in (nI i + 1) L) (hv2 : xs (nI i + 2).toNatClampNeg = p1) (hi2 : vp_in (nI i + 2) L) (hok : okP S x 6 = true) (hc : cells + 10 ≤ 601024) (hs : slots + 1000 ≤ 7293034)
    (hC : CX (jL X) (GP gs) (jD X) (jT X) yX6_gets wsX6_gets rmX6_gets [.ref x, .int p0, .int p1] (pW cI cO S) (fun ov w2 => ∃ (r : Int32) (w9 : PS), Q r w9 ∧ ov = some (.int r) ∧ w2 = pW cI cO w9) (fun E w2 => ∃ (z : Nat) (w9 : PS), Qx z w9 ∧ E = exN z ∧ w2 = pW cI cO w9)) (hqx : ∀ (z : Nat) (w9 : PS), Qx z w9 → z = 2 ∨ z = 0)
    (hM1 : ∀ (r : Int32) (w9 : PS), Q r w9 → ∃ w1 : MW, fX7_gets n7 w p0 p1 = some (r, w1) ∧ fX7_thrown w1 = some 0 ∧ REL w9 w1) (hM2 : ∀ (z : Nat) (w9 : PS), Qx z w9 → ∃ (r : Int32) (w1 : MW), fX7_gets n7 w p0 p1 = some (r, w1) ∧ fX7_thrown w1 = some (if z = 2 then (1 : Int32) else if z = 0 then (2 : Int32) else 0) ∧ REL w9 w1)
    (kk : ∀ (f1 : Nat → Int64) (S1 : PS) (w1 : MW), REL S1 w1 → JW X (cells + 10) (slots + 1000) (mW a ad cI cZ w1 ++ (o, oE cJ f1) :: pW cI cO S1) 1307 (lwL i b x a o) []) : JW X cells slots (mW a ad cI cZ w ++ (o, oE cJ f) :: pW cI cO S) 933 (lwL i b x a o) [] := by
  refine jw_aload_n hX dL_law_933 rfl 2 rfl ?_
  refine jw_aload_n hX dL_law_934 rfl 1 rfl ?_
  refine jw_iload hX dL_law_935 0 rfl ?_
  refine jw_iconst (v := (1 : Int32)) hX dL_law_937 (by decide) ?_
  refine jw_iadd hX dL_law_938 ?_
  refine jw_sld hX hB hi1 dL_law_939 ?_
  rw [hv1]
  refine jw_aload_n hX dL_law_940 rfl 1 rfl ?_
  refine jw_iload hX dL_law_941 0 rfl ?_
  refine jw_iconst (v := (2 : Int32)) hX dL_law_943 (by decide) ?_
  refine jw_iadd hX dL_law_944 ?_
  refine jw_sld hX hB hi2 dL_law_945 ?_
  rw [hv2]
  refine jw_aload_n hX dL_law_946 rfl 4 rfl ?_
  refine jw_lS (As := [.ref x, .int p0, .int p1, .ref o]) (rest := []) hX (GL_ok gs) hGX 4 (kL_gets hT hok hC hqx) gL_law_L_gets rfl (by decide) ⟨by decide, by decide⟩ rfl (Nat.le_of_ble_eq_true rfl) dL_law_947 ⟨lc9 hc (by decide), lc9 hs (by decide)⟩ ?_
  rintro ov w' (⟨r, w9, hq, rfl, rfl⟩ | ⟨z, w9, hq, rfl, rfl⟩)
  · refine jw_widen (cells + 10) (slots + 1000) (lc8 (by decide)) (lc8 (by decide)) ?_
    obtain ⟨w1, hm, hth, hrel⟩ := hM1 r w9 hq
    show JW X _ _ _ _ _ [.int 0]
    refine jw_istore hX [(5, .int 0), (4, .int (nI i)), (0, .ref b), (1, .ref x), (2, .ref a), (3, .ref o)] dL_law_950 (by decide) rfl ?_
    refine jw_aload_n hX dL_law_952 rfl 4 rfl ?_
    refine jw_aload_n hX dL_law_953 rfl 2 rfl ?_
    refine jw_iload hX dL_law_954 1 rfl ?_
    refine jw_iconst (v := (1 : Int32)) hX dL_law_956 (by decide) ?_
    refine jw_iadd hX dL_law_957 ?_
    refine jw_sld hX hB hi1 dL_law_958 ?_
    rw [hv1]
    refine jw_aload_n hX dL_law_959 rfl 2 rfl ?_
    refine jw_iload hX dL_law_960 1 rfl ?_
    refine jw_iconst (v := (2 : Int32)) hX dL_law_962 (by decide) ?_
    refine jw_iadd hX dL_law_963 ?_
    refine jw_sld hX hB hi2 dL_law_964 ?_
    rw [hv2]
    refine jw_lM (As := [.int p0, .int p1]) (rest := []) hX 2 (kX7_gets hT hm) gL_law_X7_gets rfl hdX7_gets ⟨by decide, by decide⟩ rfl (Nat.le_of_ble_eq_true rfl) dL_law_965 ⟨hc, hs⟩ ?_
    rintro ov w' ⟨rfl, rfl⟩
    show JW X _ _ _ _ _ [.int r]
    refine jw_istore hX [(6, .int r), (5, .int 0), (4, .int (nI i)), (0, .ref b), (1, .ref x), (2, .ref a), (3, .ref o)] dL_law_968 (by decide) rfl ?_
    refine jw_aload_n hX dL_law_970 rfl 5 rfl ?_
    refine jw_lM (As := []) (rest := []) hX 0 (kX7_thrown hT hth) gL_law_X7_thrown rfl hdX7_thrown ⟨by decide, by decide⟩ rfl (Nat.le_of_ble_eq_true rfl) dL_law_971 ⟨hc, hs⟩ ?_
    rintro ov w' ⟨rfl, rfl⟩
    show JW X _ _ _ _ _ [.int 0]
    refine jw_iload hX dL_law_974 1 rfl ?_
    refine jw_icmp_eq (tgt := 981) hX dL_law_976 (by decide) (fun _ => ?_) (fun h => absurd rfl h)
    refine jw_iload hX dL_law_981 1 rfl ?_
    refine jw_if_ne (tgt := 998) hX dL_law_983 (by decide) (fun h => absurd rfl h) (fun _ => ?_)
    refine jw_aload_n hX dL_law_986 rfl 6 rfl ?_
    refine jw_iconst (v := 0) hX dL_law_987 (by decide) ?_
    refine jw_olald hX hT dL_law_988 ?_
    rw [vp_updL0]
    refine jw_iload hX dL_law_989 0 rfl ?_
    refine jw_i2l (v := r.toInt64) hX dL_law_991 rfl ?_
    refine jw_lcmpeq (d := 0) hX dL_law_992 rfl ?_
    refine jw_if_eq (tgt := 998) hX dL_law_993 (by decide) (fun _ => ?_) (fun h => absurd rfl h)
    refine jw_goto (tgt := 1307) hX dL_law_998 (by decide) ?_
    refine jw_sub [2, 3, 4, 5, 6] (lwL i b x a o) rfl ?_
    exact kk _ _ _ hrel
  · refine jw_widen (cells + 10) (slots + 1000) (lc8 (by decide)) (lc8 (by decide)) ?_
    obtain ⟨r, w1, hm, hth, hrel⟩ := hM2 z w9 hq
    show JW X _ _ _ _ _ [.int (if z = 2 then (1 : Int32) else if z = 0 then (2 : Int32) else 0)]
    refine jw_istore hX [(5, .int (if z = 2 then (1 : Int32) else if z = 0 then (2 : Int32) else 0)), (4, .int (nI i)), (0, .ref b), (1, .ref x), (2, .ref a), (3, .ref o)] dL_law_950 (by decide) rfl ?_
    refine jw_aload_n hX dL_law_952 rfl 4 rfl ?_
    refine jw_aload_n hX dL_law_953 rfl 2 rfl ?_
    refine jw_iload hX dL_law_954 1 rfl ?_
    refine jw_iconst (v := (1 : Int32)) hX dL_law_956 (by decide) ?_
    refine jw_iadd hX dL_law_957 ?_
    refine jw_sld hX hB hi1 dL_law_958 ?_
    rw [hv1]
    refine jw_aload_n hX dL_law_959 rfl 2 rfl ?_
    refine jw_iload hX dL_law_960 1 rfl ?_
    refine jw_iconst (v := (2 : Int32)) hX dL_law_962 (by decide) ?_
    refine jw_iadd hX dL_law_963 ?_
    refine jw_sld hX hB hi2 dL_law_964 ?_
    rw [hv2]
    refine jw_lM (As := [.int p0, .int p1]) (rest := []) hX 2 (kX7_gets hT hm) gL_law_X7_gets rfl hdX7_gets ⟨by decide, by decide⟩ rfl (Nat.le_of_ble_eq_true rfl) dL_law_965 ⟨hc, hs⟩ ?_
    rintro ov w' ⟨rfl, rfl⟩
    show JW X _ _ _ _ _ [.int r]
    refine jw_istore hX [(6, .int r), (5, .int (if z = 2 then (1 : Int32) else if z = 0 then (2 : Int32) else 0)), (4, .int (nI i)), (0, .ref b), (1, .ref x), (2, .ref a), (3, .ref o)] dL_law_968 (by decide) rfl ?_
    refine jw_aload_n hX dL_law_970 rfl 5 rfl ?_
    refine jw_lM (As := []) (rest := []) hX 0 (kX7_thrown hT hth) gL_law_X7_thrown rfl hdX7_thrown ⟨by decide, by decide⟩ rfl (Nat.le_of_ble_eq_true rfl) dL_law_971 ⟨hc, hs⟩ ?_
    rintro ov w' ⟨rfl, rfl⟩
    show JW X _ _ _ _ _ [.int (if z = 2 then (1 : Int32) else if z = 0 then (2 : Int32) else 0)]
    refine jw_iload hX dL_law_974 1 rfl ?_
    refine jw_icmp_eq (tgt := 981) hX dL_law_976 (by decide) (fun _ => ?_) (fun h => absurd rfl h)
    refine jw_iload hX dL_law_981 1 rfl ?_
    refine jw_if_ne (tgt := 998) hX dL_law_983 (by decide) (fun _ => ?_) (fun h => ?_)
    · refine jw_goto (tgt := 1307) hX dL_law_998 (by decide) ?_
      refine jw_sub [2, 3, 4, 5, 6] (lwL i b x a o) rfl ?_
      exact kk _ _ _ hrel
    · exfalso
      rcases hqx z w9 hq with rfl | rfl
      all_goals exact absurd h (by decide)
set_option maxRecDepth 100000 in
set_option maxHeartbeats 4000000 in
theorem lq_sum {X : JX} {cells slots : Nat} {cI cZ cO cJ : ClassId} {gs : JP} {S : PS} {w : MW} {i b x a o L : Nat} {ad : Nat → Nat} {xs : Nat → Int32} {f : Nat → Int64} {p0 p1 : Int32} {n7 : Nat} {Q : Int32 → PS → Prop} {Qx : Nat → PS → Prop} {REL : PS → MW → Prop} (hX : jOK X cL_law 7 wsL_law RL room_1) (hT : jT X = jTy cI cZ cO cJ) (hGX : jG X (GL gs)) (hB : jScr X b L xs) (hv1 : xs (nI i + 1).toNatClampNeg = p0) (hi1 : vp_in (nI i + 1) L) (hv2 : xs (nI i + 2).toNatClampNeg = p1) (hi2 : vp_in (nI i + 2) L) (hok : okP S x 6 = true) (hc : cells + 10 ≤ 601024) (hs : slots + 1000 ≤ 7293034)
    (hC : CX (jL X) (GP gs) (jD X) (jT X) yX6_sum wsX6_sum rmX6_sum [.ref x, .int p0, .int p1] (pW cI cO S) (fun ov w2 => ∃ (r : Int32) (w9 : PS), Q r w9 ∧ ov = some (.int r) ∧ w2 = pW cI cO w9) (fun E w2 => ∃ (z : Nat) (w9 : PS), Qx z w9 ∧ E = exN z ∧ w2 = pW cI cO w9)) (hqx : ∀ (z : Nat) (w9 : PS), Qx z w9 → z = 2 ∨ z = 0)
    (hM1 : ∀ (r : Int32) (w9 : PS), Q r w9 → ∃ w1 : MW, fX7_sum n7 w p0 p1 = some (r, w1) ∧ fX7_thrown w1 = some 0 ∧ REL w9 w1) (hM2 : ∀ (z : Nat) (w9 : PS), Qx z w9 → ∃ (r : Int32) (w1 : MW), fX7_sum n7 w p0 p1 = some (r, w1) ∧ fX7_thrown w1 = some (if z = 2 then (1 : Int32) else if z = 0 then (2 : Int32) else 0) ∧ REL w9 w1)
    (kk : ∀ (f1 : Nat → Int64) (S1 : PS) (w1 : MW), REL S1 w1 → JW X (cells + 10) (slots + 1000) (mW a ad cI cZ w1 ++ (o, oE cJ f1) :: pW cI cO S1) 1307 (lwL i b x a o) []) : JW X cells slots (mW a ad cI cZ w ++ (o, oE cJ f) :: pW cI cO S) 1001 (lwL i b x a o) [] := by
  refine jw_aload_n hX dL_law_1001 rfl 2 rfl ?_
  refine jw_aload_n hX dL_law_1002 rfl 1 rfl ?_
  refine jw_iload hX dL_law_1003 0 rfl ?_
  refine jw_iconst (v := (1 : Int32)) hX dL_law_1005 (by decide) ?_
  refine jw_iadd hX dL_law_1006 ?_
  refine jw_sld hX hB hi1 dL_law_1007 ?_
  rw [hv1]
  refine jw_aload_n hX dL_law_1008 rfl 1 rfl ?_
  refine jw_iload hX dL_law_1009 0 rfl ?_
  refine jw_iconst (v := (2 : Int32)) hX dL_law_1011 (by decide) ?_
  refine jw_iadd hX dL_law_1012 ?_
  refine jw_sld hX hB hi2 dL_law_1013 ?_
  rw [hv2]
  refine jw_aload_n hX dL_law_1014 rfl 4 rfl ?_
  refine jw_lS (As := [.ref x, .int p0, .int p1, .ref o]) (rest := []) hX (GL_ok gs) hGX 4 (kL_sum hT hok hC hqx) gL_law_L_sum rfl (by decide) ⟨by decide, by decide⟩ rfl (Nat.le_of_ble_eq_true rfl) dL_law_1015 ⟨lc9 hc (by decide), lc9 hs (by decide)⟩ ?_
  rintro ov w' (⟨r, w9, hq, rfl, rfl⟩ | ⟨z, w9, hq, rfl, rfl⟩)
  · refine jw_widen (cells + 10) (slots + 1000) (lc8 (by decide)) (lc8 (by decide)) ?_
    obtain ⟨w1, hm, hth, hrel⟩ := hM1 r w9 hq
    show JW X _ _ _ _ _ [.int 0]
    refine jw_istore hX [(5, .int 0), (4, .int (nI i)), (0, .ref b), (1, .ref x), (2, .ref a), (3, .ref o)] dL_law_1018 (by decide) rfl ?_
    refine jw_aload_n hX dL_law_1020 rfl 4 rfl ?_
    refine jw_aload_n hX dL_law_1021 rfl 2 rfl ?_
    refine jw_iload hX dL_law_1022 1 rfl ?_
    refine jw_iconst (v := (1 : Int32)) hX dL_law_1024 (by decide) ?_
    refine jw_iadd hX dL_law_1025 ?_
    refine jw_sld hX hB hi1 dL_law_1026 ?_
    rw [hv1]
    refine jw_aload_n hX dL_law_1027 rfl 2 rfl ?_
    refine jw_iload hX dL_law_1028 1 rfl ?_
    refine jw_iconst (v := (2 : Int32)) hX dL_law_1030 (by decide) ?_
    refine jw_iadd hX dL_law_1031 ?_
    refine jw_sld hX hB hi2 dL_law_1032 ?_
    rw [hv2]
    refine jw_lM (As := [.int p0, .int p1]) (rest := []) hX 2 (kX7_sum hT hm) gL_law_X7_sum rfl hdX7_sum ⟨by decide, by decide⟩ rfl (Nat.le_of_ble_eq_true rfl) dL_law_1033 ⟨hc, hs⟩ ?_
    rintro ov w' ⟨rfl, rfl⟩
    show JW X _ _ _ _ _ [.int r]
    refine jw_istore hX [(6, .int r), (5, .int 0), (4, .int (nI i)), (0, .ref b), (1, .ref x), (2, .ref a), (3, .ref o)] dL_law_1036 (by decide) rfl ?_
    refine jw_aload_n hX dL_law_1038 rfl 5 rfl ?_
    refine jw_lM (As := []) (rest := []) hX 0 (kX7_thrown hT hth) gL_law_X7_thrown rfl hdX7_thrown ⟨by decide, by decide⟩ rfl (Nat.le_of_ble_eq_true rfl) dL_law_1039 ⟨hc, hs⟩ ?_
    rintro ov w' ⟨rfl, rfl⟩
    show JW X _ _ _ _ _ [.int 0]
    refine jw_iload hX dL_law_1042 1 rfl ?_
    refine jw_icmp_eq (tgt := 1049) hX dL_law_1044 (by decide) (fun _ => ?_) (fun h => absurd rfl h)
    refine jw_iload hX dL_law_1049 1 rfl ?_
    refine jw_if_ne (tgt := 1066) hX dL_law_1051 (by decide) (fun h => absurd rfl h) (fun _ => ?_)
    refine jw_aload_n hX dL_law_1054 rfl 6 rfl ?_
    refine jw_iconst (v := 0) hX dL_law_1055 (by decide) ?_
    refine jw_olald hX hT dL_law_1056 ?_
    rw [vp_updL0]
    refine jw_iload hX dL_law_1057 0 rfl ?_
    refine jw_i2l (v := r.toInt64) hX dL_law_1059 rfl ?_
    refine jw_lcmpeq (d := 0) hX dL_law_1060 rfl ?_
    refine jw_if_eq (tgt := 1066) hX dL_law_1061 (by decide) (fun _ => ?_) (fun h => absurd rfl h)
    refine jw_goto (tgt := 1307) hX dL_law_1066 (by decide) ?_
    refine jw_sub [2, 3, 4, 5, 6] (lwL i b x a o) rfl ?_
    exact kk _ _ _ hrel
  · refine jw_widen (cells + 10) (slots + 1000) (lc8 (by decide)) (lc8 (by decide)) ?_
    obtain ⟨r, w1, hm, hth, hrel⟩ := hM2 z w9 hq
    show JW X _ _ _ _ _ [.int (if z = 2 then (1 : Int32) else if z = 0 then (2 : Int32) else 0)]
    refine jw_istore hX [(5, .int (if z = 2 then (1 : Int32) else if z = 0 then (2 : Int32) else 0)), (4, .int (nI i)), (0, .ref b), (1, .ref x), (2, .ref a), (3, .ref o)] dL_law_1018 (by decide) rfl ?_
    refine jw_aload_n hX dL_law_1020 rfl 4 rfl ?_
    refine jw_aload_n hX dL_law_1021 rfl 2 rfl ?_
    refine jw_iload hX dL_law_1022 1 rfl ?_
    refine jw_iconst (v := (1 : Int32)) hX dL_law_1024 (by decide) ?_
    refine jw_iadd hX dL_law_1025 ?_
    refine jw_sld hX hB hi1 dL_law_1026 ?_
    rw [hv1]
    refine jw_aload_n hX dL_law_1027 rfl 2 rfl ?_
    refine jw_iload hX dL_law_1028 1 rfl ?_
    refine jw_iconst (v := (2 : Int32)) hX dL_law_1030 (by decide) ?_
    refine jw_iadd hX dL_law_1031 ?_
    refine jw_sld hX hB hi2 dL_law_1032 ?_
    rw [hv2]
    refine jw_lM (As := [.int p0, .int p1]) (rest := []) hX 2 (kX7_sum hT hm) gL_law_X7_sum rfl hdX7_sum ⟨by decide, by decide⟩ rfl (Nat.le_of_ble_eq_true rfl) dL_law_1033 ⟨hc, hs⟩ ?_
    rintro ov w' ⟨rfl, rfl⟩
    show JW X _ _ _ _ _ [.int r]
    refine jw_istore hX [(6, .int r), (5, .int (if z = 2 then (1 : Int32) else if z = 0 then (2 : Int32) else 0)), (4, .int (nI i)), (0, .ref b), (1, .ref x), (2, .ref a), (3, .ref o)] dL_law_1036 (by decide) rfl ?_
    refine jw_aload_n hX dL_law_1038 rfl 5 rfl ?_
    refine jw_lM (As := []) (rest := []) hX 0 (kX7_thrown hT hth) gL_law_X7_thrown rfl hdX7_thrown ⟨by decide, by decide⟩ rfl (Nat.le_of_ble_eq_true rfl) dL_law_1039 ⟨hc, hs⟩ ?_
    rintro ov w' ⟨rfl, rfl⟩
    show JW X _ _ _ _ _ [.int (if z = 2 then (1 : Int32) else if z = 0 then (2 : Int32) else 0)]
    refine jw_iload hX dL_law_1042 1 rfl ?_
    refine jw_icmp_eq (tgt := 1049) hX dL_law_1044 (by decide) (fun _ => ?_) (fun h => absurd rfl h)
    refine jw_iload hX dL_law_1049 1 rfl ?_
    refine jw_if_ne (tgt := 1066) hX dL_law_1051 (by decide) (fun _ => ?_) (fun h => ?_)
    · refine jw_goto (tgt := 1307) hX dL_law_1066 (by decide) ?_
      refine jw_sub [2, 3, 4, 5, 6] (lwL i b x a o) rfl ?_
      exact kk _ _ _ hrel
    · exfalso
      rcases hqx z w9 hq with rfl | rfl
      all_goals exact absurd h (by decide)
set_option maxRecDepth 100000 in
set_option maxHeartbeats 4000000 in
theorem lq_doubts {X : JX} {cells slots : Nat} {cI cZ cO cJ : ClassId} {gs : JP} {S : PS} {w : MW} {i b x a o L : Nat} {ad : Nat → Nat} {xs : Nat → Int32} {f : Nat → Int64} {p0 : Int32} {n7 : Nat} {Q : Int32 → PS → Prop} {Qx : Nat → PS → Prop} {REL : PS → MW → Prop} (hX : jOK X cL_law 7 wsL_law RL room_1) (hT : jT X = jTy cI cZ cO cJ) (hGX : jG X (GL gs)) (hB : jScr X b L xs) (hv1 : xs (nI i + 1).toNatClampNeg = p0) (hi1 : vp_in (nI i + 1) L) (hok : okP S x 6 = true) (hc : cells + 10 ≤ 601024) (hs : slots + 1000 ≤ 7293034)
    (hC : CX (jL X) (GP gs) (jD X) (jT X) yX6_doubts wsX6_doubts rmX6_doubts [.ref x, .int p0] (pW cI cO S) (fun ov w2 => ∃ (r : Int32) (w9 : PS), Q r w9 ∧ ov = some (.int r) ∧ w2 = pW cI cO w9) (fun E w2 => ∃ (z : Nat) (w9 : PS), Qx z w9 ∧ E = exN z ∧ w2 = pW cI cO w9)) (hqx : ∀ (z : Nat) (w9 : PS), Qx z w9 → z = 2)
    (hM1 : ∀ (r : Int32) (w9 : PS), Q r w9 → ∃ w1 : MW, fX7_doubts n7 w p0 = some (r, w1) ∧ fX7_thrown w1 = some 0 ∧ REL w9 w1) (hM2 : ∀ (z : Nat) (w9 : PS), Qx z w9 → ∃ (r : Int32) (w1 : MW), fX7_doubts n7 w p0 = some (r, w1) ∧ fX7_thrown w1 = some (if z = 2 then (1 : Int32) else 0) ∧ REL w9 w1)
    (kk : ∀ (f1 : Nat → Int64) (S1 : PS) (w1 : MW), REL S1 w1 → JW X (cells + 10) (slots + 1000) (mW a ad cI cZ w1 ++ (o, oE cJ f1) :: pW cI cO S1) 1307 (lwL i b x a o) []) : JW X cells slots (mW a ad cI cZ w ++ (o, oE cJ f) :: pW cI cO S) 1069 (lwL i b x a o) [] := by
  refine jw_aload_n hX dL_law_1069 rfl 2 rfl ?_
  refine jw_aload_n hX dL_law_1070 rfl 1 rfl ?_
  refine jw_iload hX dL_law_1071 0 rfl ?_
  refine jw_iconst (v := (1 : Int32)) hX dL_law_1073 (by decide) ?_
  refine jw_iadd hX dL_law_1074 ?_
  refine jw_sld hX hB hi1 dL_law_1075 ?_
  rw [hv1]
  refine jw_aload_n hX dL_law_1076 rfl 4 rfl ?_
  refine jw_lS (As := [.ref x, .int p0, .ref o]) (rest := []) hX (GL_ok gs) hGX 3 (kL_doubts hT hok hC hqx) gL_law_L_doubts rfl (by decide) ⟨by decide, by decide⟩ rfl (Nat.le_of_ble_eq_true rfl) dL_law_1077 ⟨lc9 hc (by decide), lc9 hs (by decide)⟩ ?_
  rintro ov w' (⟨r, w9, hq, rfl, rfl⟩ | ⟨z, w9, hq, rfl, rfl⟩)
  · refine jw_widen (cells + 10) (slots + 1000) (lc8 (by decide)) (lc8 (by decide)) ?_
    obtain ⟨w1, hm, hth, hrel⟩ := hM1 r w9 hq
    show JW X _ _ _ _ _ [.int 0]
    refine jw_istore hX [(5, .int 0), (4, .int (nI i)), (0, .ref b), (1, .ref x), (2, .ref a), (3, .ref o)] dL_law_1080 (by decide) rfl ?_
    refine jw_aload_n hX dL_law_1082 rfl 4 rfl ?_
    refine jw_aload_n hX dL_law_1083 rfl 2 rfl ?_
    refine jw_iload hX dL_law_1084 1 rfl ?_
    refine jw_iconst (v := (1 : Int32)) hX dL_law_1086 (by decide) ?_
    refine jw_iadd hX dL_law_1087 ?_
    refine jw_sld hX hB hi1 dL_law_1088 ?_
    rw [hv1]
    refine jw_lM (As := [.int p0]) (rest := []) hX 1 (kX7_doubts hT hm) gL_law_X7_doubts rfl hdX7_doubts ⟨by decide, by decide⟩ rfl (Nat.le_of_ble_eq_true rfl) dL_law_1089 ⟨hc, hs⟩ ?_
    rintro ov w' ⟨rfl, rfl⟩
    show JW X _ _ _ _ _ [.int r]
    refine jw_istore hX [(6, .int r), (5, .int 0), (4, .int (nI i)), (0, .ref b), (1, .ref x), (2, .ref a), (3, .ref o)] dL_law_1092 (by decide) rfl ?_
    refine jw_aload_n hX dL_law_1094 rfl 5 rfl ?_
    refine jw_lM (As := []) (rest := []) hX 0 (kX7_thrown hT hth) gL_law_X7_thrown rfl hdX7_thrown ⟨by decide, by decide⟩ rfl (Nat.le_of_ble_eq_true rfl) dL_law_1095 ⟨hc, hs⟩ ?_
    rintro ov w' ⟨rfl, rfl⟩
    show JW X _ _ _ _ _ [.int 0]
    refine jw_iload hX dL_law_1098 1 rfl ?_
    refine jw_icmp_eq (tgt := 1105) hX dL_law_1100 (by decide) (fun _ => ?_) (fun h => absurd rfl h)
    refine jw_iload hX dL_law_1105 1 rfl ?_
    refine jw_if_ne (tgt := 1122) hX dL_law_1107 (by decide) (fun h => absurd rfl h) (fun _ => ?_)
    refine jw_aload_n hX dL_law_1110 rfl 6 rfl ?_
    refine jw_iconst (v := 0) hX dL_law_1111 (by decide) ?_
    refine jw_olald hX hT dL_law_1112 ?_
    rw [vp_updL0]
    refine jw_iload hX dL_law_1113 0 rfl ?_
    refine jw_i2l (v := r.toInt64) hX dL_law_1115 rfl ?_
    refine jw_lcmpeq (d := 0) hX dL_law_1116 rfl ?_
    refine jw_if_eq (tgt := 1122) hX dL_law_1117 (by decide) (fun _ => ?_) (fun h => absurd rfl h)
    refine jw_goto (tgt := 1307) hX dL_law_1122 (by decide) ?_
    refine jw_sub [2, 3, 4, 5, 6] (lwL i b x a o) rfl ?_
    exact kk _ _ _ hrel
  · refine jw_widen (cells + 10) (slots + 1000) (lc8 (by decide)) (lc8 (by decide)) ?_
    obtain ⟨r, w1, hm, hth, hrel⟩ := hM2 z w9 hq
    show JW X _ _ _ _ _ [.int (if z = 2 then (1 : Int32) else 0)]
    refine jw_istore hX [(5, .int (if z = 2 then (1 : Int32) else 0)), (4, .int (nI i)), (0, .ref b), (1, .ref x), (2, .ref a), (3, .ref o)] dL_law_1080 (by decide) rfl ?_
    refine jw_aload_n hX dL_law_1082 rfl 4 rfl ?_
    refine jw_aload_n hX dL_law_1083 rfl 2 rfl ?_
    refine jw_iload hX dL_law_1084 1 rfl ?_
    refine jw_iconst (v := (1 : Int32)) hX dL_law_1086 (by decide) ?_
    refine jw_iadd hX dL_law_1087 ?_
    refine jw_sld hX hB hi1 dL_law_1088 ?_
    rw [hv1]
    refine jw_lM (As := [.int p0]) (rest := []) hX 1 (kX7_doubts hT hm) gL_law_X7_doubts rfl hdX7_doubts ⟨by decide, by decide⟩ rfl (Nat.le_of_ble_eq_true rfl) dL_law_1089 ⟨hc, hs⟩ ?_
    rintro ov w' ⟨rfl, rfl⟩
    show JW X _ _ _ _ _ [.int r]
    refine jw_istore hX [(6, .int r), (5, .int (if z = 2 then (1 : Int32) else 0)), (4, .int (nI i)), (0, .ref b), (1, .ref x), (2, .ref a), (3, .ref o)] dL_law_1092 (by decide) rfl ?_
    refine jw_aload_n hX dL_law_1094 rfl 5 rfl ?_
    refine jw_lM (As := []) (rest := []) hX 0 (kX7_thrown hT hth) gL_law_X7_thrown rfl hdX7_thrown ⟨by decide, by decide⟩ rfl (Nat.le_of_ble_eq_true rfl) dL_law_1095 ⟨hc, hs⟩ ?_
    rintro ov w' ⟨rfl, rfl⟩
    show JW X _ _ _ _ _ [.int (if z = 2 then (1 : Int32) else 0)]
    refine jw_iload hX dL_law_1098 1 rfl ?_
    refine jw_icmp_eq (tgt := 1105) hX dL_law_1100 (by decide) (fun _ => ?_) (fun h => absurd rfl h)
    refine jw_iload hX dL_law_1105 1 rfl ?_
    refine jw_if_ne (tgt := 1122) hX dL_law_1107 (by decide) (fun _ => ?_) (fun h => ?_)
    · refine jw_goto (tgt := 1307) hX dL_law_1122 (by decide) ?_
      refine jw_sub [2, 3, 4, 5, 6] (lwL i b x a o) rfl ?_
      exact kk _ _ _ hrel
    · exfalso
      rcases hqx z w9 hq with rfl
      all_goals exact absurd h (by decide)
set_option maxRecDepth 100000 in
set_option maxHeartbeats 4000000 in
theorem lq_doubted {X : JX} {cells slots : Nat} {cI cZ cO cJ : ClassId} {gs : JP} {S : PS} {w : MW} {i b x a o L : Nat} {ad : Nat → Nat} {xs : Nat → Int32} {f : Nat → Int64} {p0 : Int32} {n7 : Nat} {Q : Int32 → PS → Prop} {Qx : Nat → PS → Prop} {REL : PS → MW → Prop} (hX : jOK X cL_law 7 wsL_law RL room_1) (hT : jT X = jTy cI cZ cO cJ) (hGX : jG X (GL gs)) (hB : jScr X b L xs) (hv1 : xs (nI i + 1).toNatClampNeg = p0) (hi1 : vp_in (nI i + 1) L) (hok : okP S x 6 = true) (hc : cells + 10 ≤ 601024) (hs : slots + 1000 ≤ 7293034)
    (hC : CX (jL X) (GP gs) (jD X) (jT X) yX6_doubted wsX6_doubted rmX6_doubted [.ref x, .int p0] (pW cI cO S) (fun ov w2 => ∃ (r : Int32) (w9 : PS), Q r w9 ∧ ov = some (.int r) ∧ w2 = pW cI cO w9) (fun E w2 => ∃ (z : Nat) (w9 : PS), Qx z w9 ∧ E = exN z ∧ w2 = pW cI cO w9)) (hqx : ∀ (z : Nat) (w9 : PS), Qx z w9 → z = 2)
    (hM1 : ∀ (r : Int32) (w9 : PS), Q r w9 → ∃ w1 : MW, fX7_doubted n7 w p0 = some (r, w1) ∧ fX7_thrown w1 = some 0 ∧ REL w9 w1) (hM2 : ∀ (z : Nat) (w9 : PS), Qx z w9 → ∃ (r : Int32) (w1 : MW), fX7_doubted n7 w p0 = some (r, w1) ∧ fX7_thrown w1 = some (if z = 2 then (1 : Int32) else 0) ∧ REL w9 w1)
    (kk : ∀ (f1 : Nat → Int64) (S1 : PS) (w1 : MW), REL S1 w1 → JW X (cells + 10) (slots + 1000) (mW a ad cI cZ w1 ++ (o, oE cJ f1) :: pW cI cO S1) 1307 (lwL i b x a o) []) : JW X cells slots (mW a ad cI cZ w ++ (o, oE cJ f) :: pW cI cO S) 1125 (lwL i b x a o) [] := by
  refine jw_aload_n hX dL_law_1125 rfl 2 rfl ?_
  refine jw_aload_n hX dL_law_1126 rfl 1 rfl ?_
  refine jw_iload hX dL_law_1127 0 rfl ?_
  refine jw_iconst (v := (1 : Int32)) hX dL_law_1129 (by decide) ?_
  refine jw_iadd hX dL_law_1130 ?_
  refine jw_sld hX hB hi1 dL_law_1131 ?_
  rw [hv1]
  refine jw_aload_n hX dL_law_1132 rfl 4 rfl ?_
  refine jw_lS (As := [.ref x, .int p0, .ref o]) (rest := []) hX (GL_ok gs) hGX 3 (kL_doubted hT hok hC hqx) gL_law_L_doubted rfl (by decide) ⟨by decide, by decide⟩ rfl (Nat.le_of_ble_eq_true rfl) dL_law_1133 ⟨lc9 hc (by decide), lc9 hs (by decide)⟩ ?_
  rintro ov w' (⟨r, w9, hq, rfl, rfl⟩ | ⟨z, w9, hq, rfl, rfl⟩)
  · refine jw_widen (cells + 10) (slots + 1000) (lc8 (by decide)) (lc8 (by decide)) ?_
    obtain ⟨w1, hm, hth, hrel⟩ := hM1 r w9 hq
    show JW X _ _ _ _ _ [.int 0]
    refine jw_istore hX [(5, .int 0), (4, .int (nI i)), (0, .ref b), (1, .ref x), (2, .ref a), (3, .ref o)] dL_law_1136 (by decide) rfl ?_
    refine jw_aload_n hX dL_law_1138 rfl 4 rfl ?_
    refine jw_aload_n hX dL_law_1139 rfl 2 rfl ?_
    refine jw_iload hX dL_law_1140 1 rfl ?_
    refine jw_iconst (v := (1 : Int32)) hX dL_law_1142 (by decide) ?_
    refine jw_iadd hX dL_law_1143 ?_
    refine jw_sld hX hB hi1 dL_law_1144 ?_
    rw [hv1]
    refine jw_lM (As := [.int p0]) (rest := []) hX 1 (kX7_doubted hT hm) gL_law_X7_doubted rfl hdX7_doubted ⟨by decide, by decide⟩ rfl (Nat.le_of_ble_eq_true rfl) dL_law_1145 ⟨hc, hs⟩ ?_
    rintro ov w' ⟨rfl, rfl⟩
    show JW X _ _ _ _ _ [.int r]
    refine jw_istore hX [(6, .int r), (5, .int 0), (4, .int (nI i)), (0, .ref b), (1, .ref x), (2, .ref a), (3, .ref o)] dL_law_1148 (by decide) rfl ?_
    refine jw_aload_n hX dL_law_1150 rfl 5 rfl ?_
    refine jw_lM (As := []) (rest := []) hX 0 (kX7_thrown hT hth) gL_law_X7_thrown rfl hdX7_thrown ⟨by decide, by decide⟩ rfl (Nat.le_of_ble_eq_true rfl) dL_law_1151 ⟨hc, hs⟩ ?_
    rintro ov w' ⟨rfl, rfl⟩
    show JW X _ _ _ _ _ [.int 0]
    refine jw_iload hX dL_law_1154 1 rfl ?_
    refine jw_icmp_eq (tgt := 1161) hX dL_law_1156 (by decide) (fun _ => ?_) (fun h => absurd rfl h)
    refine jw_iload hX dL_law_1161 1 rfl ?_
    refine jw_if_ne (tgt := 1178) hX dL_law_1163 (by decide) (fun h => absurd rfl h) (fun _ => ?_)
    refine jw_aload_n hX dL_law_1166 rfl 6 rfl ?_
    refine jw_iconst (v := 0) hX dL_law_1167 (by decide) ?_
    refine jw_olald hX hT dL_law_1168 ?_
    rw [vp_updL0]
    refine jw_iload hX dL_law_1169 0 rfl ?_
    refine jw_i2l (v := r.toInt64) hX dL_law_1171 rfl ?_
    refine jw_lcmpeq (d := 0) hX dL_law_1172 rfl ?_
    refine jw_if_eq (tgt := 1178) hX dL_law_1173 (by decide) (fun _ => ?_) (fun h => absurd rfl h)
    refine jw_goto (tgt := 1307) hX dL_law_1178 (by decide) ?_
    refine jw_sub [2, 3, 4, 5, 6] (lwL i b x a o) rfl ?_
    exact kk _ _ _ hrel
  · refine jw_widen (cells + 10) (slots + 1000) (lc8 (by decide)) (lc8 (by decide)) ?_
    obtain ⟨r, w1, hm, hth, hrel⟩ := hM2 z w9 hq
    show JW X _ _ _ _ _ [.int (if z = 2 then (1 : Int32) else 0)]
    refine jw_istore hX [(5, .int (if z = 2 then (1 : Int32) else 0)), (4, .int (nI i)), (0, .ref b), (1, .ref x), (2, .ref a), (3, .ref o)] dL_law_1136 (by decide) rfl ?_
    refine jw_aload_n hX dL_law_1138 rfl 4 rfl ?_
    refine jw_aload_n hX dL_law_1139 rfl 2 rfl ?_
    refine jw_iload hX dL_law_1140 1 rfl ?_
    refine jw_iconst (v := (1 : Int32)) hX dL_law_1142 (by decide) ?_
    refine jw_iadd hX dL_law_1143 ?_
    refine jw_sld hX hB hi1 dL_law_1144 ?_
    rw [hv1]
    refine jw_lM (As := [.int p0]) (rest := []) hX 1 (kX7_doubted hT hm) gL_law_X7_doubted rfl hdX7_doubted ⟨by decide, by decide⟩ rfl (Nat.le_of_ble_eq_true rfl) dL_law_1145 ⟨hc, hs⟩ ?_
    rintro ov w' ⟨rfl, rfl⟩
    show JW X _ _ _ _ _ [.int r]
    refine jw_istore hX [(6, .int r), (5, .int (if z = 2 then (1 : Int32) else 0)), (4, .int (nI i)), (0, .ref b), (1, .ref x), (2, .ref a), (3, .ref o)] dL_law_1148 (by decide) rfl ?_
    refine jw_aload_n hX dL_law_1150 rfl 5 rfl ?_
    refine jw_lM (As := []) (rest := []) hX 0 (kX7_thrown hT hth) gL_law_X7_thrown rfl hdX7_thrown ⟨by decide, by decide⟩ rfl (Nat.le_of_ble_eq_true rfl) dL_law_1151 ⟨hc, hs⟩ ?_
    rintro ov w' ⟨rfl, rfl⟩
    show JW X _ _ _ _ _ [.int (if z = 2 then (1 : Int32) else 0)]
    refine jw_iload hX dL_law_1154 1 rfl ?_
    refine jw_icmp_eq (tgt := 1161) hX dL_law_1156 (by decide) (fun _ => ?_) (fun h => absurd rfl h)
    refine jw_iload hX dL_law_1161 1 rfl ?_
    refine jw_if_ne (tgt := 1178) hX dL_law_1163 (by decide) (fun _ => ?_) (fun h => ?_)
    · refine jw_goto (tgt := 1307) hX dL_law_1178 (by decide) ?_
      refine jw_sub [2, 3, 4, 5, 6] (lwL i b x a o) rfl ?_
      exact kk _ _ _ hrel
    · exfalso
      rcases hqx z w9 hq with rfl
      all_goals exact absurd h (by decide)
set_option maxRecDepth 100000 in
set_option maxHeartbeats 4000000 in
theorem lq_isFrozen {X : JX} {cells slots : Nat} {cI cZ cO cJ : ClassId} {gs : JP} {S : PS} {w : MW} {i b x a o L : Nat} {ad : Nat → Nat} {xs : Nat → Int32} {f : Nat → Int64} {p0 : Int32} {n7 : Nat} {Q : Int32 → PS → Prop} {Qx : Nat → PS → Prop} {REL : PS → MW → Prop} (hX : jOK X cL_law 7 wsL_law RL room_1) (hT : jT X = jTy cI cZ cO cJ) (hGX : jG X (GL gs)) (hB : jScr X b L xs) (hv1 : xs (nI i + 1).toNatClampNeg = p0) (hi1 : vp_in (nI i + 1) L) (hok : okP S x 6 = true) (hc : cells + 10 ≤ 601024) (hs : slots + 1000 ≤ 7293034)
    (hC : CX (jL X) (GP gs) (jD X) (jT X) yX6_isFrozen wsX6_isFrozen rmX6_isFrozen [.ref x, .int p0] (pW cI cO S) (fun ov w2 => ∃ (r : Int32) (w9 : PS), Q r w9 ∧ ov = some (.int r) ∧ w2 = pW cI cO w9) (fun E w2 => ∃ (z : Nat) (w9 : PS), Qx z w9 ∧ E = exN z ∧ w2 = pW cI cO w9)) (hqx : ∀ (z : Nat) (w9 : PS), Qx z w9 → z = 2)
    (hM1 : ∀ (r : Int32) (w9 : PS), Q r w9 → ∃ w1 : MW, fX7_isFrozen n7 w p0 = some (r, w1) ∧ fX7_thrown w1 = some 0 ∧ REL w9 w1) (hM2 : ∀ (z : Nat) (w9 : PS), Qx z w9 → ∃ (r : Int32) (w1 : MW), fX7_isFrozen n7 w p0 = some (r, w1) ∧ fX7_thrown w1 = some (if z = 2 then (1 : Int32) else 0) ∧ REL w9 w1)
    (kk : ∀ (f1 : Nat → Int64) (S1 : PS) (w1 : MW), REL S1 w1 → JW X (cells + 10) (slots + 1000) (mW a ad cI cZ w1 ++ (o, oE cJ f1) :: pW cI cO S1) 1307 (lwL i b x a o) []) : JW X cells slots (mW a ad cI cZ w ++ (o, oE cJ f) :: pW cI cO S) 1181 (lwL i b x a o) [] := by
  refine jw_aload_n hX dL_law_1181 rfl 2 rfl ?_
  refine jw_aload_n hX dL_law_1182 rfl 1 rfl ?_
  refine jw_iload hX dL_law_1183 0 rfl ?_
  refine jw_iconst (v := (1 : Int32)) hX dL_law_1185 (by decide) ?_
  refine jw_iadd hX dL_law_1186 ?_
  refine jw_sld hX hB hi1 dL_law_1187 ?_
  rw [hv1]
  refine jw_aload_n hX dL_law_1188 rfl 4 rfl ?_
  refine jw_lS (As := [.ref x, .int p0, .ref o]) (rest := []) hX (GL_ok gs) hGX 3 (kL_isFrozen hT hok hC hqx) gL_law_L_isFrozen rfl (by decide) ⟨by decide, by decide⟩ rfl (Nat.le_of_ble_eq_true rfl) dL_law_1189 ⟨lc9 hc (by decide), lc9 hs (by decide)⟩ ?_
  rintro ov w' (⟨r, w9, hq, rfl, rfl⟩ | ⟨z, w9, hq, rfl, rfl⟩)
  · refine jw_widen (cells + 10) (slots + 1000) (lc8 (by decide)) (lc8 (by decide)) ?_
    obtain ⟨w1, hm, hth, hrel⟩ := hM1 r w9 hq
    show JW X _ _ _ _ _ [.int 0]
    refine jw_istore hX [(5, .int 0), (4, .int (nI i)), (0, .ref b), (1, .ref x), (2, .ref a), (3, .ref o)] dL_law_1192 (by decide) rfl ?_
    refine jw_aload_n hX dL_law_1194 rfl 4 rfl ?_
    refine jw_aload_n hX dL_law_1195 rfl 2 rfl ?_
    refine jw_iload hX dL_law_1196 1 rfl ?_
    refine jw_iconst (v := (1 : Int32)) hX dL_law_1198 (by decide) ?_
    refine jw_iadd hX dL_law_1199 ?_
    refine jw_sld hX hB hi1 dL_law_1200 ?_
    rw [hv1]
    refine jw_lM (As := [.int p0]) (rest := []) hX 1 (kX7_isFrozen hT hm) gL_law_X7_isFrozen rfl hdX7_isFrozen ⟨by decide, by decide⟩ rfl (Nat.le_of_ble_eq_true rfl) dL_law_1201 ⟨hc, hs⟩ ?_
    rintro ov w' ⟨rfl, rfl⟩
    show JW X _ _ _ _ _ [.int r]
    refine jw_istore hX [(6, .int r), (5, .int 0), (4, .int (nI i)), (0, .ref b), (1, .ref x), (2, .ref a), (3, .ref o)] dL_law_1204 (by decide) rfl ?_
    refine jw_aload_n hX dL_law_1206 rfl 5 rfl ?_
    refine jw_lM (As := []) (rest := []) hX 0 (kX7_thrown hT hth) gL_law_X7_thrown rfl hdX7_thrown ⟨by decide, by decide⟩ rfl (Nat.le_of_ble_eq_true rfl) dL_law_1207 ⟨hc, hs⟩ ?_
    rintro ov w' ⟨rfl, rfl⟩
    show JW X _ _ _ _ _ [.int 0]
    refine jw_iload hX dL_law_1210 1 rfl ?_
    refine jw_icmp_eq (tgt := 1217) hX dL_law_1212 (by decide) (fun _ => ?_) (fun h => absurd rfl h)
    refine jw_iload hX dL_law_1217 1 rfl ?_
    refine jw_if_ne (tgt := 1241) hX dL_law_1219 (by decide) (fun h => absurd rfl h) (fun _ => ?_)
    refine jw_aload_n hX dL_law_1222 rfl 6 rfl ?_
    refine jw_iconst (v := 0) hX dL_law_1223 (by decide) ?_
    refine jw_olald hX hT dL_law_1224 ?_
    rw [vp_updL0]
    refine jw_iload hX dL_law_1225 0 rfl ?_
    refine jw_if_eq (tgt := 1234) hX dL_law_1227 (by decide) (fun h0 => ?_) (fun h0 => ?_)
    · have hv9 : v01 r = 0 := if_pos h0
      refine jw_lconst (v := 0) hX dL_law_1234 (by decide) ?_
      refine jw_lcmpeq (d := 0) hX dL_law_1235 hv9 ?_
      refine jw_if_eq (tgt := 1241) hX dL_law_1236 (by decide) (fun _ => ?_) (fun h => absurd rfl h)
      refine jw_goto (tgt := 1307) hX dL_law_1241 (by decide) ?_
      refine jw_sub [2, 3, 4, 5, 6] (lwL i b x a o) rfl ?_
      exact kk _ _ _ hrel
    · have hv9 : v01 r = 1 := if_neg h0
      refine jw_lconst (v := 1) hX dL_law_1230 (by decide) ?_
      refine jw_goto (tgt := 1235) hX dL_law_1231 (by decide) ?_
      refine jw_lcmpeq (d := 0) hX dL_law_1235 hv9 ?_
      refine jw_if_eq (tgt := 1241) hX dL_law_1236 (by decide) (fun _ => ?_) (fun h => absurd rfl h)
      refine jw_goto (tgt := 1307) hX dL_law_1241 (by decide) ?_
      refine jw_sub [2, 3, 4, 5, 6] (lwL i b x a o) rfl ?_
      exact kk _ _ _ hrel
  · refine jw_widen (cells + 10) (slots + 1000) (lc8 (by decide)) (lc8 (by decide)) ?_
    obtain ⟨r, w1, hm, hth, hrel⟩ := hM2 z w9 hq
    show JW X _ _ _ _ _ [.int (if z = 2 then (1 : Int32) else 0)]
    refine jw_istore hX [(5, .int (if z = 2 then (1 : Int32) else 0)), (4, .int (nI i)), (0, .ref b), (1, .ref x), (2, .ref a), (3, .ref o)] dL_law_1192 (by decide) rfl ?_
    refine jw_aload_n hX dL_law_1194 rfl 4 rfl ?_
    refine jw_aload_n hX dL_law_1195 rfl 2 rfl ?_
    refine jw_iload hX dL_law_1196 1 rfl ?_
    refine jw_iconst (v := (1 : Int32)) hX dL_law_1198 (by decide) ?_
    refine jw_iadd hX dL_law_1199 ?_
    refine jw_sld hX hB hi1 dL_law_1200 ?_
    rw [hv1]
    refine jw_lM (As := [.int p0]) (rest := []) hX 1 (kX7_isFrozen hT hm) gL_law_X7_isFrozen rfl hdX7_isFrozen ⟨by decide, by decide⟩ rfl (Nat.le_of_ble_eq_true rfl) dL_law_1201 ⟨hc, hs⟩ ?_
    rintro ov w' ⟨rfl, rfl⟩
    show JW X _ _ _ _ _ [.int r]
    refine jw_istore hX [(6, .int r), (5, .int (if z = 2 then (1 : Int32) else 0)), (4, .int (nI i)), (0, .ref b), (1, .ref x), (2, .ref a), (3, .ref o)] dL_law_1204 (by decide) rfl ?_
    refine jw_aload_n hX dL_law_1206 rfl 5 rfl ?_
    refine jw_lM (As := []) (rest := []) hX 0 (kX7_thrown hT hth) gL_law_X7_thrown rfl hdX7_thrown ⟨by decide, by decide⟩ rfl (Nat.le_of_ble_eq_true rfl) dL_law_1207 ⟨hc, hs⟩ ?_
    rintro ov w' ⟨rfl, rfl⟩
    show JW X _ _ _ _ _ [.int (if z = 2 then (1 : Int32) else 0)]
    refine jw_iload hX dL_law_1210 1 rfl ?_
    refine jw_icmp_eq (tgt := 1217) hX dL_law_1212 (by decide) (fun _ => ?_) (fun h => absurd rfl h)
    refine jw_iload hX dL_law_1217 1 rfl ?_
    refine jw_if_ne (tgt := 1241) hX dL_law_1219 (by decide) (fun _ => ?_) (fun h => ?_)
    · refine jw_goto (tgt := 1307) hX dL_law_1241 (by decide) ?_
      refine jw_sub [2, 3, 4, 5, 6] (lwL i b x a o) rfl ?_
      exact kk _ _ _ hrel
    · exfalso
      rcases hqx z w9 hq with rfl
      all_goals exact absurd h (by decide)
set_option maxRecDepth 100000 in
set_option maxHeartbeats 4000000 in
theorem lq_holds {X : JX} {cells slots : Nat} {cI cZ cO cJ : ClassId} {gs : JP} {S : PS} {w : MW} {i b x a o L : Nat} {ad : Nat → Nat} {xs : Nat → Int32} {f : Nat → Int64} {p0 : Int32} {Q : Int32 → PS → Prop} {Qx : Nat → PS → Prop} {REL : PS → MW → Prop} (hX : jOK X cL_law 7 wsL_law RL room_1) (hT : jT X = jTy cI cZ cO cJ) (hGX : jG X (GL gs)) (hB : jScr X b L xs) (hv1 : xs (nI i + 1).toNatClampNeg = p0) (hi1 : vp_in (nI i + 1) L) (hok : okP S x 6 = true) (hc : cells + 10 ≤ 601024) (hs : slots + 1000 ≤ 7293034)
    (hC : CX (jL X) (GP gs) (jD X) (jT X) yX6_holds wsX6_holds rmX6_holds [.ref x, .int p0] (pW cI cO S) (fun ov w2 => ∃ (r : Int32) (w9 : PS), Q r w9 ∧ ov = some (.int r) ∧ w2 = pW cI cO w9) (fun E w2 => ∃ (z : Nat) (w9 : PS), Qx z w9 ∧ E = exN z ∧ w2 = pW cI cO w9)) (hqx : ∀ (z : Nat) (w9 : PS), Qx z w9 → z = 2)
    (hM1 : ∀ (r : Int32) (w9 : PS), Q r w9 → ∃ w1 : MW, fX7_holds w p0 = some (r, w1) ∧ fX7_thrown w1 = some 0 ∧ REL w9 w1) (hM2 : ∀ (z : Nat) (w9 : PS), Qx z w9 → ∃ (r : Int32) (w1 : MW), fX7_holds w p0 = some (r, w1) ∧ fX7_thrown w1 = some (if z = 2 then (1 : Int32) else 0) ∧ REL w9 w1)
    (kk : ∀ (f1 : Nat → Int64) (S1 : PS) (w1 : MW), REL S1 w1 → JW X (cells + 10) (slots + 1000) (mW a ad cI cZ w1 ++ (o, oE cJ f1) :: pW cI cO S1) 1307 (lwL i b x a o) []) : JW X cells slots (mW a ad cI cZ w ++ (o, oE cJ f) :: pW cI cO S) 1244 (lwL i b x a o) [] := by
  refine jw_aload_n hX dL_law_1244 rfl 2 rfl ?_
  refine jw_aload_n hX dL_law_1245 rfl 1 rfl ?_
  refine jw_iload hX dL_law_1246 0 rfl ?_
  refine jw_iconst (v := (1 : Int32)) hX dL_law_1248 (by decide) ?_
  refine jw_iadd hX dL_law_1249 ?_
  refine jw_sld hX hB hi1 dL_law_1250 ?_
  rw [hv1]
  refine jw_aload_n hX dL_law_1251 rfl 4 rfl ?_
  refine jw_lS (As := [.ref x, .int p0, .ref o]) (rest := []) hX (GL_ok gs) hGX 3 (kL_holds hT hok hC hqx) gL_law_L_holds rfl (by decide) ⟨by decide, by decide⟩ rfl (Nat.le_of_ble_eq_true rfl) dL_law_1252 ⟨lc9 hc (by decide), lc9 hs (by decide)⟩ ?_
  rintro ov w' (⟨r, w9, hq, rfl, rfl⟩ | ⟨z, w9, hq, rfl, rfl⟩)
  · refine jw_widen (cells + 10) (slots + 1000) (lc8 (by decide)) (lc8 (by decide)) ?_
    obtain ⟨w1, hm, hth, hrel⟩ := hM1 r w9 hq
    show JW X _ _ _ _ _ [.int 0]
    refine jw_istore hX [(5, .int 0), (4, .int (nI i)), (0, .ref b), (1, .ref x), (2, .ref a), (3, .ref o)] dL_law_1255 (by decide) rfl ?_
    refine jw_aload_n hX dL_law_1257 rfl 4 rfl ?_
    refine jw_aload_n hX dL_law_1258 rfl 2 rfl ?_
    refine jw_iload hX dL_law_1259 1 rfl ?_
    refine jw_iconst (v := (1 : Int32)) hX dL_law_1261 (by decide) ?_
    refine jw_iadd hX dL_law_1262 ?_
    refine jw_sld hX hB hi1 dL_law_1263 ?_
    rw [hv1]
    refine jw_lM (As := [.int p0]) (rest := []) hX 1 (kX7_holds hT hm) gL_law_X7_holds rfl hdX7_holds ⟨by decide, by decide⟩ rfl (Nat.le_of_ble_eq_true rfl) dL_law_1264 ⟨hc, hs⟩ ?_
    rintro ov w' ⟨rfl, rfl⟩
    show JW X _ _ _ _ _ [.int r]
    refine jw_istore hX [(6, .int r), (5, .int 0), (4, .int (nI i)), (0, .ref b), (1, .ref x), (2, .ref a), (3, .ref o)] dL_law_1267 (by decide) rfl ?_
    refine jw_aload_n hX dL_law_1269 rfl 5 rfl ?_
    refine jw_lM (As := []) (rest := []) hX 0 (kX7_thrown hT hth) gL_law_X7_thrown rfl hdX7_thrown ⟨by decide, by decide⟩ rfl (Nat.le_of_ble_eq_true rfl) dL_law_1270 ⟨hc, hs⟩ ?_
    rintro ov w' ⟨rfl, rfl⟩
    show JW X _ _ _ _ _ [.int 0]
    refine jw_iload hX dL_law_1273 1 rfl ?_
    refine jw_icmp_eq (tgt := 1280) hX dL_law_1275 (by decide) (fun _ => ?_) (fun h => absurd rfl h)
    refine jw_iload hX dL_law_1280 1 rfl ?_
    refine jw_if_ne (tgt := 1304) hX dL_law_1282 (by decide) (fun h => absurd rfl h) (fun _ => ?_)
    refine jw_aload_n hX dL_law_1285 rfl 6 rfl ?_
    refine jw_iconst (v := 0) hX dL_law_1286 (by decide) ?_
    refine jw_olald hX hT dL_law_1287 ?_
    rw [vp_updL0]
    refine jw_iload hX dL_law_1288 0 rfl ?_
    refine jw_if_eq (tgt := 1297) hX dL_law_1290 (by decide) (fun h0 => ?_) (fun h0 => ?_)
    · have hv9 : v01 r = 0 := if_pos h0
      refine jw_lconst (v := 0) hX dL_law_1297 (by decide) ?_
      refine jw_lcmpeq (d := 0) hX dL_law_1298 hv9 ?_
      refine jw_if_eq (tgt := 1304) hX dL_law_1299 (by decide) (fun _ => ?_) (fun h => absurd rfl h)
      refine jw_goto (tgt := 1307) hX dL_law_1304 (by decide) ?_
      refine jw_sub [2, 3, 4, 5, 6] (lwL i b x a o) rfl ?_
      exact kk _ _ _ hrel
    · have hv9 : v01 r = 1 := if_neg h0
      refine jw_lconst (v := 1) hX dL_law_1293 (by decide) ?_
      refine jw_goto (tgt := 1298) hX dL_law_1294 (by decide) ?_
      refine jw_lcmpeq (d := 0) hX dL_law_1298 hv9 ?_
      refine jw_if_eq (tgt := 1304) hX dL_law_1299 (by decide) (fun _ => ?_) (fun h => absurd rfl h)
      refine jw_goto (tgt := 1307) hX dL_law_1304 (by decide) ?_
      refine jw_sub [2, 3, 4, 5, 6] (lwL i b x a o) rfl ?_
      exact kk _ _ _ hrel
  · refine jw_widen (cells + 10) (slots + 1000) (lc8 (by decide)) (lc8 (by decide)) ?_
    obtain ⟨r, w1, hm, hth, hrel⟩ := hM2 z w9 hq
    show JW X _ _ _ _ _ [.int (if z = 2 then (1 : Int32) else 0)]
    refine jw_istore hX [(5, .int (if z = 2 then (1 : Int32) else 0)), (4, .int (nI i)), (0, .ref b), (1, .ref x), (2, .ref a), (3, .ref o)] dL_law_1255 (by decide) rfl ?_
    refine jw_aload_n hX dL_law_1257 rfl 4 rfl ?_
    refine jw_aload_n hX dL_law_1258 rfl 2 rfl ?_
    refine jw_iload hX dL_law_1259 1 rfl ?_
    refine jw_iconst (v := (1 : Int32)) hX dL_law_1261 (by decide) ?_
    refine jw_iadd hX dL_law_1262 ?_
    refine jw_sld hX hB hi1 dL_law_1263 ?_
    rw [hv1]
    refine jw_lM (As := [.int p0]) (rest := []) hX 1 (kX7_holds hT hm) gL_law_X7_holds rfl hdX7_holds ⟨by decide, by decide⟩ rfl (Nat.le_of_ble_eq_true rfl) dL_law_1264 ⟨hc, hs⟩ ?_
    rintro ov w' ⟨rfl, rfl⟩
    show JW X _ _ _ _ _ [.int r]
    refine jw_istore hX [(6, .int r), (5, .int (if z = 2 then (1 : Int32) else 0)), (4, .int (nI i)), (0, .ref b), (1, .ref x), (2, .ref a), (3, .ref o)] dL_law_1267 (by decide) rfl ?_
    refine jw_aload_n hX dL_law_1269 rfl 5 rfl ?_
    refine jw_lM (As := []) (rest := []) hX 0 (kX7_thrown hT hth) gL_law_X7_thrown rfl hdX7_thrown ⟨by decide, by decide⟩ rfl (Nat.le_of_ble_eq_true rfl) dL_law_1270 ⟨hc, hs⟩ ?_
    rintro ov w' ⟨rfl, rfl⟩
    show JW X _ _ _ _ _ [.int (if z = 2 then (1 : Int32) else 0)]
    refine jw_iload hX dL_law_1273 1 rfl ?_
    refine jw_icmp_eq (tgt := 1280) hX dL_law_1275 (by decide) (fun _ => ?_) (fun h => absurd rfl h)
    refine jw_iload hX dL_law_1280 1 rfl ?_
    refine jw_if_ne (tgt := 1304) hX dL_law_1282 (by decide) (fun _ => ?_) (fun h => ?_)
    · refine jw_goto (tgt := 1307) hX dL_law_1304 (by decide) ?_
      refine jw_sub [2, 3, 4, 5, 6] (lwL i b x a o) rfl ?_
      exact kk _ _ _ hrel
    · exfalso
      rcases hqx z w9 hq with rfl
      all_goals exact absurd h (by decide)
