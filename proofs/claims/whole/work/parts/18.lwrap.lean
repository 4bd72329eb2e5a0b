def v01 (r : Int32) : Int64 := if r = 0 then 0 else 1
abbrev rmL_type : Room := { frames := 7, cells := 1, slots := 6, locals := 111 }
set_option maxRecDepth 100000 in
set_option maxHeartbeats 4000000 in
theorem kL_type {l : Launch} {D : va_G} {tys : List (ClassId × FieldType)} {cI cZ cO cJ : ClassId} {gs : JP} {S : PS} {x o : Nat} {p0 : Int32} {f : Nat → Int64} {Q : Int32 → PS → Prop} {Qx : Nat → PS → Prop} (hT : tys = jTy cI cZ cO cJ) (hok : okP S x 6 = true)
    (hC : CX l (GP gs) D tys yX6_type wsX6_type rmX6_type [.ref x, .int p0] (pW cI cO S) (fun ov w2 => ∃ (r : Int32) (w9 : PS), Q r w9 ∧ ov = some (.int r) ∧ w2 = pW cI cO w9) (fun E w2 => ∃ (z : Nat) (w9 : PS), Qx z w9 ∧ E = exN z ∧ w2 = pW cI cO w9)) (hqx : ∀ (z : Nat) (w9 : PS), Qx z w9 → z = 0 ∨ z = 1) :
    CC l (GL gs) D tys yL_type wsL_type rmL_type [.ref x, .int p0, .ref o] ((o, oE cJ f) :: pW cI cO S) (fun ov w2 => (∃ (r : Int32) (w9 : PS), Q r w9 ∧ ov = some (.int 0) ∧ w2 = (o, oE cJ (vp_updL f 0 r.toInt64)) :: pW cI cO w9) ∨ (∃ (z : Nat) (w9 : PS), Qx z w9 ∧ ov = some (.int (if z = 0 then (1 : Int32) else if z = 1 then (2 : Int32) else 0)) ∧ w2 = (o, oE cJ f) :: pW cI cO w9)) := by
  refine CC_ofH (cc := cL_type) (maxL := 4) (hh := [(0, 9, 12, 13), (0, 9, 15, 15)]) (by decide) rfl (Nat.le_of_ble_eq_true rfl) ?_
  intro X hD hL hT0 hGX hX htab hret
  subst hD
  subst hL
  subst hT0
  have hGP := gl_gp hGX
  refine jw_aload_n hX dL_type_0 rfl 2 rfl ?_
  refine jw_iconst (v := (0 : Int32)) hX dL_type_1 (by decide) ?_
  refine jw_aload_n hX dL_type_2 rfl 0 rfl ?_
  refine jw_iload_n hX dL_type_3 rfl 1 rfl ?_
  refine jw_xF (As := [.int p0]) hX hGP 1 hC gL_type_X6_type rfl hdX6_type ⟨by decide, by decide⟩ 6 rfl (by decide) hok rfl (Nat.le_of_ble_eq_true rfl) dL_type_4 ⟨by decide, by decide⟩ ?_ ?_
  · rintro E ce q9 w' H1 locs1 ls ⟨z, w9, hq, rfl, rfl⟩ hAt hce
    rcases hqx z w9 hq with rfl | rfl
    · refine jw_catch hX (E := exN 0) [] ⟨0, 9, 12, 13⟩ [⟨0, 9, 15, 15⟩] htab (fun _ h => nomatch h) (by decide) (by decide) (by decide +kernel) (gp_nc hGP (w := .castable (exN 0) (exN 0)) (by decide +kernel)) hAt hce (fun q => ?_)
      refine jw_astore_n hX [(3, .ref q), (0, .ref x), (1, .int p0), (2, .ref o)] dL_type_12 rfl (by decide) rfl ?_
      refine jw_iconst (v := (1 : Int32)) hX dL_type_13 (by decide) ?_
      exact hret _ _ _ _ _ _ (by decide) (by decide) dL_type_14 (Or.inr ⟨_, w9, hq, rfl, rfl⟩)
    · refine jw_catch hX (E := exN 1) [⟨0, 9, 12, 13⟩] ⟨0, 9, 15, 15⟩ [] htab (fun z hz => by
      simp only [List.mem_cons, List.not_mem_nil, or_false] at hz
      rcases hz with rfl
      · exact Or.inr ⟨by decide, exN 0, by decide +kernel, gl_nc hGX (by decide +kernel)⟩) (by decide) (by decide) (by decide +kernel) (gp_nc hGP (w := .castable (exN 1) (exN 1)) (by decide +kernel)) hAt hce (fun q => ?_)
      refine jw_astore_n hX [(3, .ref q), (0, .ref x), (1, .int p0), (2, .ref o)] dL_type_15 rfl (by decide) rfl ?_
      refine jw_iconst (v := (2 : Int32)) hX dL_type_16 (by decide) ?_
      exact hret _ _ _ _ _ _ (by decide) (by decide) dL_type_17 (Or.inr ⟨_, w9, hq, rfl, rfl⟩)
  · rintro ov w' ⟨r, w9, hq, rfl, rfl⟩
    show JW X _ _ _ _ _ [.int r, .int 0, .ref o]
    refine jw_i2l (v := r.toInt64) hX dL_type_7 rfl ?_
    refine jw_olast hX hT dL_type_8 ?_
    refine jw_goto (tgt := 18) hX dL_type_9 (by decide) ?_
    refine jw_iconst (v := (0 : Int32)) hX dL_type_18 (by decide) ?_
    exact hret _ _ _ _ _ _ (by decide) (by decide) dL_type_19 (Or.inl ⟨r, w9, hq, rfl, rfl⟩)
abbrev rmL_post : Room := { frames := 8, cells := 8, slots := 808, locals := 191 }
set_option maxRecDepth 100000 in
set_option maxHeartbeats 4000000 in
theorem kL_post {l : Launch} {D : va_G} {tys : List (ClassId × FieldType)} {cI cZ cO cJ : ClassId} {gs : JP} {S : PS} {x o : Nat} {f : Nat → Int64} {Q : Int32 → PS → Prop} {Qx : Nat → PS → Prop} (hT : tys = jTy cI cZ cO cJ) (hok : okP S x 6 = true)
    (hC : CX l (GP gs) D tys yX6_post wsX6_post rmX6_post [.ref x] (pW cI cO S) (fun ov w2 => ∃ (r : Int32) (w9 : PS), Q r w9 ∧ ov = some (.int r) ∧ w2 = pW cI cO w9) (fun E w2 => ∃ (z : Nat) (w9 : PS), Qx z w9 ∧ E = exN z ∧ w2 = pW cI cO w9)) (hqx : ∀ (z : Nat) (w9 : PS), Qx z w9 → z = 1) :
    CC l (GL gs) D tys yL_post wsL_post rmL_post [.ref x, .ref o] ((o, oE cJ f) :: pW cI cO S) (fun ov w2 => (∃ (r : Int32) (w9 : PS), Q r w9 ∧ ov = some (.int 0) ∧ w2 = (o, oE cJ (vp_updL f 0 r.toInt64)) :: pW cI cO w9) ∨ (∃ (z : Nat) (w9 : PS), Qx z w9 ∧ ov = some (.int (if z = 1 then (1 : Int32) else 0)) ∧ w2 = (o, oE cJ f) :: pW cI cO w9)) := by
  refine CC_ofH (cc := cL_post) (maxL := 3) (hh := [(0, 8, 11, 15)]) (by decide) rfl (Nat.le_of_ble_eq_true rfl) ?_
  intro X hD hL hT0 hGX hX htab hret
  subst hD
  subst hL
  subst hT0
  have hGP := gl_gp hGX
  refine jw_aload_n hX dL_post_0 rfl 1 rfl ?_
  refine jw_iconst (v := (0 : Int32)) hX dL_post_1 (by decide) ?_
  refine jw_aload_n hX dL_post_2 rfl 0 rfl ?_
  refine jw_xF (As := []) hX hGP 0 hC gL_post_X6_post rfl hdX6_post ⟨by decide, by decide⟩ 6 rfl (by decide) hok rfl (Nat.le_of_ble_eq_true rfl) dL_post_3 ⟨by decide, by decide⟩ ?_ ?_
  · rintro E ce q9 w' H1 locs1 ls ⟨z, w9, hq, rfl, rfl⟩ hAt hce
    rcases hqx z w9 hq with rfl
    · refine jw_catch hX (E := exN 1) [] ⟨0, 8, 11, 15⟩ [] htab (fun _ h => nomatch h) (by decide) (by decide) (by decide +kernel) (gp_nc hGP (w := .castable (exN 1) (exN 1)) (by decide +kernel)) hAt hce (fun q => ?_)
      refine jw_astore_n hX [(2, .ref q), (0, .ref x), (1, .ref o)] dL_post_11 rfl (by decide) rfl ?_
      refine jw_iconst (v := (1 : Int32)) hX dL_post_12 (by decide) ?_
      exact hret _ _ _ _ _ _ (by decide) (by decide) dL_post_13 (Or.inr ⟨_, w9, hq, rfl, rfl⟩)
  · rintro ov w' ⟨r, w9, hq, rfl, rfl⟩
    show JW X _ _ _ _ _ [.int r, .int 0, .ref o]
    refine jw_i2l (v := r.toInt64) hX dL_post_6 rfl ?_
    refine jw_olast hX hT dL_post_7 ?_
    refine jw_goto (tgt := 14) hX dL_post_8 (by decide) ?_
    refine jw_iconst (v := (0 : Int32)) hX dL_post_14 (by decide) ?_
    exact hret _ _ _ _ _ _ (by decide) (by decide) dL_post_15 (Or.inl ⟨r, w9, hq, rfl, rfl⟩)
abbrev rmL_write : Room := { frames := 8, cells := 9, slots := 756, locals := 157 }
set_option maxRecDepth 100000 in
set_option maxHeartbeats 4000000 in
theorem kL_write {l : Launch} {D : va_G} {tys : List (ClassId × FieldType)} {cI cZ cO cJ : ClassId} {gs : JP} {S : PS} {x o : Nat} {p0 : Int32} {f : Nat → Int64} {Q : Int32 → PS → Prop} {Qx : Nat → PS → Prop} (hT : tys = jTy cI cZ cO cJ) (hok : okP S x 6 = true)
    (hC : CX l (GP gs) D tys yX6_write wsX6_write rmX6_write [.ref x, .int p0] (pW cI cO S) (fun ov w2 => ∃ (r : Int32) (w9 : PS), Q r w9 ∧ ov = some (.int r) ∧ w2 = pW cI cO w9) (fun E w2 => ∃ (z : Nat) (w9 : PS), Qx z w9 ∧ E = exN z ∧ w2 = pW cI cO w9)) (hqx : ∀ (z : Nat) (w9 : PS), Qx z w9 → z = 2 ∨ z = 1) :
    CC l (GL gs) D tys yL_write wsL_write rmL_write [.ref x, .int p0, .ref o] ((o, oE cJ f) :: pW cI cO S) (fun ov w2 => (∃ (r : Int32) (w9 : PS), Q r w9 ∧ ov = some (.int 0) ∧ w2 = (o, oE cJ (vp_updL f 0 (v01 r))) :: pW cI cO w9) ∨ (∃ (z : Nat) (w9 : PS), Qx z w9 ∧ ov = some (.int (if z = 2 then (1 : Int32) else if z = 1 then (2 : Int32) else 0)) ∧ w2 = (o, oE cJ f) :: pW cI cO w9)) := by
  refine CC_ofH (cc := cL_write) (maxL := 4) (hh := [(0, 16, 19, 25), (0, 16, 22, 15)]) (by decide) rfl (Nat.le_of_ble_eq_true rfl) ?_
  intro X hD hL hT0 hGX hX htab hret
  subst hD
  subst hL
  subst hT0
  have hGP := gl_gp hGX
  refine jw_aload_n hX dL_write_0 rfl 2 rfl ?_
  refine jw_iconst (v := (0 : Int32)) hX dL_write_1 (by decide) ?_
  refine jw_aload_n hX dL_write_2 rfl 0 rfl ?_
  refine jw_iload_n hX dL_write_3 rfl 1 rfl ?_
  refine jw_xF (As := [.int p0]) hX hGP 1 hC gL_write_X6_write rfl hdX6_write ⟨by decide, by decide⟩ 6 rfl (by decide) hok rfl (Nat.le_of_ble_eq_true rfl) dL_write_4 ⟨by decide, by decide⟩ ?_ ?_
  · rintro E ce q9 w' H1 locs1 ls ⟨z, w9, hq, rfl, rfl⟩ hAt hce
    rcases hqx z w9 hq with rfl | rfl
    · refine jw_catch hX (E := exN 2) [] ⟨0, 16, 19, 25⟩ [⟨0, 16, 22, 15⟩] htab (fun _ h => nomatch h) (by decide) (by decide) (by decide +kernel) (gp_nc hGP (w := .castable (exN 2) (exN 2)) (by decide +kernel)) hAt hce (fun q => ?_)
      refine jw_astore_n hX [(3, .ref q), (0, .ref x), (1, .int p0), (2, .ref o)] dL_write_19 rfl (by decide) rfl ?_
      refine jw_iconst (v := (1 : Int32)) hX dL_write_20 (by decide) ?_
      exact hret _ _ _ _ _ _ (by decide) (by decide) dL_write_21 (Or.inr ⟨_, w9, hq, rfl, rfl⟩)
    · refine jw_catch hX (E := exN 1) [⟨0, 16, 19, 25⟩] ⟨0, 16, 22, 15⟩ [] htab (fun z hz => by
      simp only [List.mem_cons, List.not_mem_nil, or_false] at hz
      rcases hz with rfl
      · exact Or.inr ⟨by decide, exN 2, by decide +kernel, gl_nc hGX (by decide +kernel)⟩) (by decide) (by decide) (by decide +kernel) (gp_nc hGP (w := .castable (exN 1) (exN 1)) (by decide +kernel)) hAt hce (fun q => ?_)
      refine jw_astore_n hX [(3, .ref q), (0, .ref x), (1, .int p0), (2, .ref o)] dL_write_22 rfl (by decide) rfl ?_
      refine jw_iconst (v := (2 : Int32)) hX dL_write_23 (by decide) ?_
      exact hret _ _ _ _ _ _ (by decide) (by decide) dL_write_24 (Or.inr ⟨_, w9, hq, rfl, rfl⟩)
  · rintro ov w' ⟨r, w9, hq, rfl, rfl⟩
    show JW X _ _ _ _ _ [.int r, .int 0, .ref o]
    refine jw_if_eq (tgt := 14) hX dL_write_7 (by decide) (fun hc => ?_) (fun hc => ?_)
    · have hv : v01 r = 0 := if_pos hc
      refine jw_lconst (v := 0) hX dL_write_14 (by decide) ?_
      refine jw_olast hX hT dL_write_15 ?_
      refine jw_goto (tgt := 25) hX dL_write_16 (by decide) ?_
      refine jw_iconst (v := (0 : Int32)) hX dL_write_25 (by decide) ?_
      exact hret _ _ _ _ _ _ (by decide) (by decide) dL_write_26 (Or.inl ⟨r, w9, hq, rfl, by rw [hv]⟩)
    · have hv : v01 r = 1 := if_neg hc
      refine jw_lconst (v := 1) hX dL_write_10 (by decide) ?_
      refine jw_goto (tgt := 15) hX dL_write_11 (by decide) ?_
      refine jw_olast hX hT dL_write_15 ?_
      refine jw_goto (tgt := 25) hX dL_write_16 (by decide) ?_
      refine jw_iconst (v := (0 : Int32)) hX dL_write_25 (by decide) ?_
      exact hret _ _ _ _ _ _ (by decide) (by decide) dL_write_26 (Or.inl ⟨r, w9, hq, rfl, by rw [hv]⟩)
abbrev rmL_strike : Room := { frames := 8, cells := 2, slots := 12, locals := 135 }
set_option maxRecDepth 100000 in
set_option maxHeartbeats 4000000 in
theorem kL_strike {l : Launch} {D : va_G} {tys : List (ClassId × FieldType)} {cI cZ cO cJ : ClassId} {gs : JP} {S : PS} {x o : Nat} {p0 : Int32} {f : Nat → Int64} {Q : Int32 → PS → Prop} {Qx : Nat → PS → Prop} (hT : tys = jTy cI cZ cO cJ) (hok : okP S x 6 = true)
    (hC : CX l (GP gs) D tys yX6_strike wsX6_strike rmX6_strike [.ref x, .int p0] (pW cI cO S) (fun ov w2 => ∃ (r : Int32) (w9 : PS), Q r w9 ∧ ov = some (.int r) ∧ w2 = pW cI cO w9) (fun E w2 => ∃ (z : Nat) (w9 : PS), Qx z w9 ∧ E = exN z ∧ w2 = pW cI cO w9)) (hqx : ∀ (z : Nat) (w9 : PS), Qx z w9 → z = 2 ∨ z = 1) :
    CC l (GL gs) D tys yL_strike wsL_strike rmL_strike [.ref x, .int p0, .ref o] ((o, oE cJ f) :: pW cI cO S) (fun ov w2 => (∃ (r : Int32) (w9 : PS), Q r w9 ∧ ov = some (.int 0) ∧ w2 = (o, oE cJ (vp_updL f 0 r.toInt64)) :: pW cI cO w9) ∨ (∃ (z : Nat) (w9 : PS), Qx z w9 ∧ ov = some (.int (if z = 2 then (1 : Int32) else if z = 1 then (2 : Int32) else 0)) ∧ w2 = (o, oE cJ f) :: pW cI cO w9)) := by
  refine CC_ofH (cc := cL_strike) (maxL := 4) (hh := [(0, 9, 12, 25), (0, 9, 15, 15)]) (by decide) rfl (Nat.le_of_ble_eq_true rfl) ?_
  intro X hD hL hT0 hGX hX htab hret
  subst hD
  subst hL
  subst hT0
  have hGP := gl_gp hGX
  refine jw_aload_n hX dL_strike_0 rfl 2 rfl ?_
  refine jw_iconst (v := (0 : Int32)) hX dL_strike_1 (by decide) ?_
  refine jw_aload_n hX dL_strike_2 rfl 0 rfl ?_
  refine jw_iload_n hX dL_strike_3 rfl 1 rfl ?_
  refine jw_xF (As := [.int p0]) hX hGP 1 hC gL_strike_X6_strike rfl hdX6_strike ⟨by decide, by decide⟩ 6 rfl (by decide) hok rfl (Nat.le_of_ble_eq_true rfl) dL_strike_4 ⟨by decide, by decide⟩ ?_ ?_
  · rintro E ce q9 w' H1 locs1 ls ⟨z, w9, hq, rfl, rfl⟩ hAt hce
    rcases hqx z w9 hq with rfl | rfl
    · refine jw_catch hX (E := exN 2) [] ⟨0, 9, 12, 25⟩ [⟨0, 9, 15, 15⟩] htab (fun _ h => nomatch h) (by decide) (by decide) (by decide +kernel) (gp_nc hGP (w := .castable (exN 2) (exN 2)) (by decide +kernel)) hAt hce (fun q => ?_)
      refine jw_astore_n hX [(3, .ref q), (0, .ref x), (1, .int p0), (2, .ref o)] dL_strike_12 rfl (by decide) rfl ?_
      refine jw_iconst (v := (1 : Int32)) hX dL_strike_13 (by decide) ?_
      exact hret _ _ _ _ _ _ (by decide) (by decide) dL_strike_14 (Or.inr ⟨_, w9, hq, rfl, rfl⟩)
    · refine jw_catch hX (E := exN 1) [⟨0, 9, 12, 25⟩] ⟨0, 9, 15, 15⟩ [] htab (fun z hz => by
      simp only [List.mem_cons, List.not_mem_nil, or_false] at hz
      rcases hz with rfl
      · exact Or.inr ⟨by decide, exN 2, by decide +kernel, gl_nc hGX (by decide +kernel)⟩) (by decide) (by decide) (by decide +kernel) (gp_nc hGP (w := .castable (exN 1) (exN 1)) (by decide +kernel)) hAt hce (fun q => ?_)
      refine jw_astore_n hX [(3, .ref q), (0, .ref x), (1, .int p0), (2, .ref o)] dL_strike_15 rfl (by decide) rfl ?_
      refine jw_iconst (v := (2 : Int32)) hX dL_strike_16 (by decide) ?_
      exact hret _ _ _ _ _ _ (by decide) (by decide) dL_strike_17 (Or.inr ⟨_, w9, hq, rfl, rfl⟩)
  · rintro ov w' ⟨r, w9, hq, rfl, rfl⟩
    show JW X _ _ _ _ _ [.int r, .int 0, .ref o]
    refine jw_i2l (v := r.toInt64) hX dL_strike_7 rfl ?_
    refine jw_olast hX hT dL_strike_8 ?_
    refine jw_goto (tgt := 18) hX dL_strike_9 (by decide) ?_
    refine jw_iconst (v := (0 : Int32)) hX dL_strike_18 (by decide) ?_
    exact hret _ _ _ _ _ _ (by decide) (by decide) dL_strike_19 (Or.inl ⟨r, w9, hq, rfl, rfl⟩)
abbrev rmL_rule : Room := { frames := 8, cells := 6, slots := 93, locals := 195 }
set_option maxRecDepth 100000 in
set_option maxHeartbeats 4000000 in
theorem kL_rule {l : Launch} {D : va_G} {tys : List (ClassId × FieldType)} {cI cZ cO cJ : ClassId} {gs : JP} {S : PS} {x o : Nat} {p0 : Int32} {p1 : Int32} {p2 : Int32} {p3 : Int32} {f : Nat → Int64} {Q : Int32 → PS → Prop} {Qx : Nat → PS → Prop} (hT : tys = jTy cI cZ cO cJ) (hok : okP S x 6 = true)
    (hC : CX l (GP gs) D tys yX6_rule wsX6_rule rmX6_rule [.ref x, .int p0, .int p1, .int p2, .int p3] (pW cI cO S) (fun ov w2 => ∃ (r : Int32) (w9 : PS), Q r w9 ∧ ov = some (.int r) ∧ w2 = pW cI cO w9) (fun E w2 => ∃ (z : Nat) (w9 : PS), Qx z w9 ∧ E = exN z ∧ w2 = pW cI cO w9)) (hqx : ∀ (z : Nat) (w9 : PS), Qx z w9 → z = 0 ∨ z = 1) :
    CC l (GL gs) D tys yL_rule wsL_rule rmL_rule [.ref x, .int p0, .int p1, .int p2, .int p3, .ref o] ((o, oE cJ f) :: pW cI cO S) (fun ov w2 => (∃ (r : Int32) (w9 : PS), Q r w9 ∧ ov = some (.int 0) ∧ w2 = (o, oE cJ (vp_updL f 0 r.toInt64)) :: pW cI cO w9) ∨ (∃ (z : Nat) (w9 : PS), Qx z w9 ∧ ov = some (.int (if z = 0 then (1 : Int32) else if z = 1 then (2 : Int32) else 0)) ∧ w2 = (o, oE cJ f) :: pW cI cO w9)) := by
  refine CC_ofH (cc := cL_rule) (maxL := 7) (hh := [(0, 14, 17, 13), (0, 14, 21, 15)]) (by decide) rfl (Nat.le_of_ble_eq_true rfl) ?_
  intro X hD hL hT0 hGX hX htab hret
  subst hD
  subst hL
  subst hT0
  have hGP := gl_gp hGX
  refine jw_aload hX dL_rule_0 5 rfl ?_
  refine jw_iconst (v := (0 : Int32)) hX dL_rule_2 (by decide) ?_
  refine jw_aload_n hX dL_rule_3 rfl 0 rfl ?_
  refine jw_iload_n hX dL_rule_4 rfl 1 rfl ?_
  refine jw_iload_n hX dL_rule_5 rfl 2 rfl ?_
  refine jw_iload_n hX dL_rule_6 rfl 3 rfl ?_
  refine jw_iload hX dL_rule_7 4 rfl ?_
  refine jw_xF (As := [.int p0, .int p1, .int p2, .int p3]) hX hGP 4 hC gL_rule_X6_rule rfl hdX6_rule ⟨by decide, by decide⟩ 6 rfl (by decide) hok rfl (Nat.le_of_ble_eq_true rfl) dL_rule_9 ⟨by decide, by decide⟩ ?_ ?_
  · rintro E ce q9 w' H1 locs1 ls ⟨z, w9, hq, rfl, rfl⟩ hAt hce
    rcases hqx z w9 hq with rfl | rfl
    · refine jw_catch hX (E := exN 0) [] ⟨0, 14, 17, 13⟩ [⟨0, 14, 21, 15⟩] htab (fun _ h => nomatch h) (by decide) (by decide) (by decide +kernel) (gp_nc hGP (w := .castable (exN 0) (exN 0)) (by decide +kernel)) hAt hce (fun q => ?_)
      refine jw_astore hX [(6, .ref q), (0, .ref x), (1, .int p0), (2, .int p1), (3, .int p2), (4, .int p3), (5, .ref o)] dL_rule_17 (by decide) rfl ?_
      refine jw_iconst (v := (1 : Int32)) hX dL_rule_19 (by decide) ?_
      exact hret _ _ _ _ _ _ (by decide) (by decide) dL_rule_20 (Or.inr ⟨_, w9, hq, rfl, rfl⟩)
    · refine jw_catch hX (E := exN 1) [⟨0, 14, 17, 13⟩] ⟨0, 14, 21, 15⟩ [] htab (fun z hz => by
      simp only [List.mem_cons, List.not_mem_nil, or_false] at hz
      rcases hz with rfl
      · exact Or.inr ⟨by decide, exN 0, by decide +kernel, gl_nc hGX (by decide +kernel)⟩) (by decide) (by decide) (by decide +kernel) (gp_nc hGP (w := .castable (exN 1) (exN 1)) (by decide +kernel)) hAt hce (fun q => ?_)
      refine jw_astore hX [(6, .ref q), (0, .ref x), (1, .int p0), (2, .int p1), (3, .int p2), (4, .int p3), (5, .ref o)] dL_rule_21 (by decide) rfl ?_
      refine jw_iconst (v := (2 : Int32)) hX dL_rule_23 (by decide) ?_
      exact hret _ _ _ _ _ _ (by decide) (by decide) dL_rule_24 (Or.inr ⟨_, w9, hq, rfl, rfl⟩)
  · rintro ov w' ⟨r, w9, hq, rfl, rfl⟩
    show JW X _ _ _ _ _ [.int r, .int 0, .ref o]
    refine jw_i2l (v := r.toInt64) hX dL_rule_12 rfl ?_
    refine jw_olast hX hT dL_rule_13 ?_
    refine jw_goto (tgt := 25) hX dL_rule_14 (by decide) ?_
    refine jw_iconst (v := (0 : Int32)) hX dL_rule_25 (by decide) ?_
    exact hret _ _ _ _ _ _ (by decide) (by decide) dL_rule_26 (Or.inl ⟨r, w9, hq, rfl, rfl⟩)
abbrev rmL_takeBack : Room := { frames := 8, cells := 2, slots := 12, locals := 156 }
set_option maxRecDepth 100000 in
set_option maxHeartbeats 4000000 in
theorem kL_takeBack {l : Launch} {D : va_G} {tys : List (ClassId × FieldType)} {cI cZ cO cJ : ClassId} {gs : JP} {S : PS} {x o : Nat} {p0 : Int32} {f : Nat → Int64} {Q : Int32 → PS → Prop} {Qx : Nat → PS → Prop} (hT : tys = jTy cI cZ cO cJ) (hok : okP S x 6 = true)
    (hC : CX l (GP gs) D tys yX6_takeBack wsX6_takeBack rmX6_takeBack [.ref x, .int p0] (pW cI cO S) (fun ov w2 => ∃ (r : Int32) (w9 : PS), Q r w9 ∧ ov = some (.int r) ∧ w2 = pW cI cO w9) (fun E w2 => ∃ (z : Nat) (w9 : PS), Qx z w9 ∧ E = exN z ∧ w2 = pW cI cO w9)) (hqx : ∀ (z : Nat) (w9 : PS), Qx z w9 → z = 2 ∨ z = 1) :
    CC l (GL gs) D tys yL_takeBack wsL_takeBack rmL_takeBack [.ref x, .int p0, .ref o] ((o, oE cJ f) :: pW cI cO S) (fun ov w2 => (∃ (r : Int32) (w9 : PS), Q r w9 ∧ ov = some (.int 0) ∧ w2 = (o, oE cJ (vp_updL f 0 r.toInt64)) :: pW cI cO w9) ∨ (∃ (z : Nat) (w9 : PS), Qx z w9 ∧ ov = some (.int (if z = 2 then (1 : Int32) else if z = 1 then (2 : Int32) else 0)) ∧ w2 = (o, oE cJ f) :: pW cI cO w9)) := by
  refine CC_ofH (cc := cL_takeBack) (maxL := 4) (hh := [(0, 9, 12, 25), (0, 9, 15, 15)]) (by decide) rfl (Nat.le_of_ble_eq_true rfl) ?_
  intro X hD hL hT0 hGX hX htab hret
  subst hD
  subst hL
  subst hT0
  have hGP := gl_gp hGX
  refine jw_aload_n hX dL_takeBack_0 rfl 2 rfl ?_
  refine jw_iconst (v := (0 : Int32)) hX dL_takeBack_1 (by decide) ?_
  refine jw_aload_n hX dL_takeBack_2 rfl 0 rfl ?_
  refine jw_iload_n hX dL_takeBack_3 rfl 1 rfl ?_
  refine jw_xF (As := [.int p0]) hX hGP 1 hC gL_takeBack_X6_takeBack rfl hdX6_takeBack ⟨by decide, by decide⟩ 6 rfl (by decide) hok rfl (Nat.le_of_ble_eq_true rfl) dL_takeBack_4 ⟨by decide, by decide⟩ ?_ ?_
  · rintro E ce q9 w' H1 locs1 ls ⟨z, w9, hq, rfl, rfl⟩ hAt hce
    rcases hqx z w9 hq with rfl | rfl
    · refine jw_catch hX (E := exN 2) [] ⟨0, 9, 12, 25⟩ [⟨0, 9, 15, 15⟩] htab (fun _ h => nomatch h) (by decide) (by decide) (by decide +kernel) (gp_nc hGP (w := .castable (exN 2) (exN 2)) (by decide +kernel)) hAt hce (fun q => ?_)
      refine jw_astore_n hX [(3, .ref q), (0, .ref x), (1, .int p0), (2, .ref o)] dL_takeBack_12 rfl (by decide) rfl ?_
      refine jw_iconst (v := (1 : Int32)) hX dL_takeBack_13 (by decide) ?_
      exact hret _ _ _ _ _ _ (by decide) (by decide) dL_takeBack_14 (Or.inr ⟨_, w9, hq, rfl, rfl⟩)
    · refine jw_catch hX (E := exN 1) [⟨0, 9, 12, 25⟩] ⟨0, 9, 15, 15⟩ [] htab (fun z hz => by
      simp only [List.mem_cons, List.not_mem_nil, or_false] at hz
      rcases hz with rfl
      · exact Or.inr ⟨by decide, exN 2, by decide +kernel, gl_nc hGX (by decide +kernel)⟩) (by decide) (by decide) (by decide +kernel) (gp_nc hGP (w := .castable (exN 1) (exN 1)) (by decide +kernel)) hAt hce (fun q => ?_)
      refine jw_astore_n hX [(3, .ref q), (0, .ref x), (1, .int p0), (2, .ref o)] dL_takeBack_15 rfl (by decide) rfl ?_
      refine jw_iconst (v := (2 : Int32)) hX dL_takeBack_16 (by decide) ?_
      exact hret _ _ _ _ _ _ (by decide) (by decide) dL_takeBack_17 (Or.inr ⟨_, w9, hq, rfl, rfl⟩)
  · rintro ov w' ⟨r, w9, hq, rfl, rfl⟩
    show JW X _ _ _ _ _ [.int r, .int 0, .ref o]
    refine jw_i2l (v := r.toInt64) hX dL_takeBack_7 rfl ?_
    refine jw_olast hX hT dL_takeBack_8 ?_
    refine jw_goto (tgt := 18) hX dL_takeBack_9 (by decide) ?_
    refine jw_iconst (v := (0 : Int32)) hX dL_takeBack_18 (by decide) ?_
    exact hret _ _ _ _ _ _ (by decide) (by decide) dL_takeBack_19 (Or.inl ⟨r, w9, hq, rfl, rfl⟩)
abbrev rmL_audit : Room := { frames := 8, cells := 4, slots := 80, locals := 193 }
set_option maxRecDepth 100000 in
set_option maxHeartbeats 4000000 in
theorem kL_audit {l : Launch} {D : va_G} {tys : List (ClassId × FieldType)} {cI cZ cO cJ : ClassId} {gs : JP} {S : PS} {x o : Nat} {p0 : Int32} {p1 : Int32} {f : Nat → Int64} {Q : Int32 → PS → Prop} {Qx : Nat → PS → Prop} (hT : tys = jTy cI cZ cO cJ) (hok : okP S x 6 = true)
    (hC : CX l (GP gs) D tys yX6_audit wsX6_audit rmX6_audit [.ref x, .int p0, .int p1] (pW cI cO S) (fun ov w2 => ∃ (r : Int32) (w9 : PS), Q r w9 ∧ ov = some (.int r) ∧ w2 = pW cI cO w9) (fun E w2 => ∃ (z : Nat) (w9 : PS), Qx z w9 ∧ E = exN z ∧ w2 = pW cI cO w9)) (hqx : ∀ (z : Nat) (w9 : PS), Qx z w9 → z = 2 ∨ z = 0 ∨ z = 1) :
    CC l (GL gs) D tys yL_audit wsL_audit rmL_audit [.ref x, .int p0, .int p1, .ref o] ((o, oE cJ f) :: pW cI cO S) (fun ov w2 => (∃ (r : Int32) (w9 : PS), Q r w9 ∧ ov = some (.int 0) ∧ w2 = (o, oE cJ (vp_updL f 0 r.toInt64)) :: pW cI cO w9) ∨ (∃ (z : Nat) (w9 : PS), Qx z w9 ∧ ov = some (.int (if z = 2 then (1 : Int32) else if z = 0 then (2 : Int32) else if z = 1 then (3 : Int32) else 0)) ∧ w2 = (o, oE cJ f) :: pW cI cO w9)) := by
  refine CC_ofH (cc := cL_audit) (maxL := 5) (hh := [(0, 10, 13, 25), (0, 10, 17, 13), (0, 10, 21, 15)]) (by decide) rfl (Nat.le_of_ble_eq_true rfl) ?_
  intro X hD hL hT0 hGX hX htab hret
  subst hD
  subst hL
  subst hT0
  have hGP := gl_gp hGX
  refine jw_aload_n hX dL_audit_0 rfl 3 rfl ?_
  refine jw_iconst (v := (0 : Int32)) hX dL_audit_1 (by decide) ?_
  refine jw_aload_n hX dL_audit_2 rfl 0 rfl ?_
  refine jw_iload_n hX dL_audit_3 rfl 1 rfl ?_
  refine jw_iload_n hX dL_audit_4 rfl 2 rfl ?_
  refine jw_xF (As := [.int p0, .int p1]) hX hGP 2 hC gL_audit_X6_audit rfl hdX6_audit ⟨by decide, by decide⟩ 6 rfl (by decide) hok rfl (Nat.le_of_ble_eq_true rfl) dL_audit_5 ⟨by decide, by decide⟩ ?_ ?_
  · rintro E ce q9 w' H1 locs1 ls ⟨z, w9, hq, rfl, rfl⟩ hAt hce
    rcases hqx z w9 hq with rfl | rfl | rfl
    · refine jw_catch hX (E := exN 2) [] ⟨0, 10, 13, 25⟩ [⟨0, 10, 17, 13⟩, ⟨0, 10, 21, 15⟩] htab (fun _ h => nomatch h) (by decide) (by decide) (by decide +kernel) (gp_nc hGP (w := .castable (exN 2) (exN 2)) (by decide +kernel)) hAt hce (fun q => ?_)
      refine jw_astore hX [(4, .ref q), (0, .ref x), (1, .int p0), (2, .int p1), (3, .ref o)] dL_audit_13 (by decide) rfl ?_
      refine jw_iconst (v := (1 : Int32)) hX dL_audit_15 (by decide) ?_
      exact hret _ _ _ _ _ _ (by decide) (by decide) dL_audit_16 (Or.inr ⟨_, w9, hq, rfl, rfl⟩)
    · refine jw_catch hX (E := exN 0) [⟨0, 10, 13, 25⟩] ⟨0, 10, 17, 13⟩ [⟨0, 10, 21, 15⟩] htab (fun z hz => by
      simp only [List.mem_cons, List.not_mem_nil, or_false] at hz
      rcases hz with rfl
      · exact Or.inr ⟨by decide, exN 2, by decide +kernel, gl_nc hGX (by decide +kernel)⟩) (by decide) (by decide) (by decide +kernel) (gp_nc hGP (w := .castable (exN 0) (exN 0)) (by decide +kernel)) hAt hce (fun q => ?_)
      refine jw_astore hX [(4, .ref q), (0, .ref x), (1, .int p0), (2, .int p1), (3, .ref o)] dL_audit_17 (by decide) rfl ?_
      refine jw_iconst (v := (2 : Int32)) hX dL_audit_19 (by decide) ?_
      exact hret _ _ _ _ _ _ (by decide) (by decide) dL_audit_20 (Or.inr ⟨_, w9, hq, rfl, rfl⟩)
    · refine jw_catch hX (E := exN 1) [⟨0, 10, 13, 25⟩, ⟨0, 10, 17, 13⟩] ⟨0, 10, 21, 15⟩ [] htab (fun z hz => by
      simp only [List.mem_cons, List.not_mem_nil, or_false] at hz
      rcases hz with rfl | rfl
      · exact Or.inr ⟨by decide, exN 2, by decide +kernel, gl_nc hGX (by decide +kernel)⟩
      · exact Or.inr ⟨by decide, exN 0, by decide +kernel, gl_nc hGX (by decide +kernel)⟩) (by decide) (by decide) (by decide +kernel) (gp_nc hGP (w := .castable (exN 1) (exN 1)) (by decide +kernel)) hAt hce (fun q => ?_)
      refine jw_astore hX [(4, .ref q), (0, .ref x), (1, .int p0), (2, .int p1), (3, .ref o)] dL_audit_21 (by decide) rfl ?_
      refine jw_iconst (v := (3 : Int32)) hX dL_audit_23 (by decide) ?_
      exact hret _ _ _ _ _ _ (by decide) (by decide) dL_audit_24 (Or.inr ⟨_, w9, hq, rfl, rfl⟩)
  · rintro ov w' ⟨r, w9, hq, rfl, rfl⟩
    show JW X _ _ _ _ _ [.int r, .int 0, .ref o]
    refine jw_i2l (v := r.toInt64) hX dL_audit_8 rfl ?_
    refine jw_olast hX hT dL_audit_9 ?_
    refine jw_goto (tgt := 25) hX dL_audit_10 (by decide) ?_
    refine jw_iconst (v := (0 : Int32)) hX dL_audit_25 (by decide) ?_
    exact hret _ _ _ _ _ _ (by decide) (by decide) dL_audit_26 (Or.inl ⟨r, w9, hq, rfl, rfl⟩)
abbrev rmL_end : Room := { frames := 8, cells := 2, slots := 12, locals := 133 }
set_option maxRecDepth 100000 in
set_option maxHeartbeats 4000000 in
theorem kL_end {l : Launch} {D : va_G} {tys : List (ClassId × FieldType)} {cI cZ cO cJ : ClassId} {gs : JP} {S : PS} {x o : Nat} {p0 : Int32} {f : Nat → Int64} {Q : Int32 → PS → Prop} {Qx : Nat → PS → Prop} (hT : tys = jTy cI cZ cO cJ) (hok : okP S x 6 = true)
    (hC : CX l (GP gs) D tys yX6_end wsX6_end rmX6_end [.ref x, .int p0] (pW cI cO S) (fun ov w2 => ∃ (r : Int32) (w9 : PS), Q r w9 ∧ ov = some (.int r) ∧ w2 = pW cI cO w9) (fun E w2 => ∃ (z : Nat) (w9 : PS), Qx z w9 ∧ E = exN z ∧ w2 = pW cI cO w9)) (hqx : ∀ (z : Nat) (w9 : PS), Qx z w9 → z = 2 ∨ z = 1) :
    CC l (GL gs) D tys yL_end wsL_end rmL_end [.ref x, .int p0, .ref o] ((o, oE cJ f) :: pW cI cO S) (fun ov w2 => (∃ (r : Int32) (w9 : PS), Q r w9 ∧ ov = some (.int 0) ∧ w2 = (o, oE cJ (vp_updL f 0 (v01 r))) :: pW cI cO w9) ∨ (∃ (z : Nat) (w9 : PS), Qx z w9 ∧ ov = some (.int (if z = 2 then (1 : Int32) else if z = 1 then (2 : Int32) else 0)) ∧ w2 = (o, oE cJ f) :: pW cI cO w9)) := by
  refine CC_ofH (cc := cL_end) (maxL := 4) (hh := [(0, 16, 19, 25), (0, 16, 22, 15)]) (by decide) rfl (Nat.le_of_ble_eq_true rfl) ?_
  intro X hD hL hT0 hGX hX htab hret
  subst hD
  subst hL
  subst hT0
  have hGP := gl_gp hGX
  refine jw_aload_n hX dL_end_0 rfl 2 rfl ?_
  refine jw_iconst (v := (0 : Int32)) hX dL_end_1 (by decide) ?_
  refine jw_aload_n hX dL_end_2 rfl 0 rfl ?_
  refine jw_iload_n hX dL_end_3 rfl 1 rfl ?_
  refine jw_xF (As := [.int p0]) hX hGP 1 hC gL_end_X6_end rfl hdX6_end ⟨by decide, by decide⟩ 6 rfl (by decide) hok rfl (Nat.le_of_ble_eq_true rfl) dL_end_4 ⟨by decide, by decide⟩ ?_ ?_
  · rintro E ce q9 w' H1 locs1 ls ⟨z, w9, hq, rfl, rfl⟩ hAt hce
    rcases hqx z w9 hq with rfl | rfl
    · refine jw_catch hX (E := exN 2) [] ⟨0, 16, 19, 25⟩ [⟨0, 16, 22, 15⟩] htab (fun _ h => nomatch h) (by decide) (by decide) (by decide +kernel) (gp_nc hGP (w := .castable (exN 2) (exN 2)) (by decide +kernel)) hAt hce (fun q => ?_)
      refine jw_astore_n hX [(3, .ref q), (0, .ref x), (1, .int p0), (2, .ref o)] dL_end_19 rfl (by decide) rfl ?_
      refine jw_iconst (v := (1 : Int32)) hX dL_end_20 (by decide) ?_
      exact hret _ _ _ _ _ _ (by decide) (by decide) dL_end_21 (Or.inr ⟨_, w9, hq, rfl, rfl⟩)
    · refine jw_catch hX (E := exN 1) [⟨0, 16, 19, 25⟩] ⟨0, 16, 22, 15⟩ [] htab (fun z hz => by
      simp only [List.mem_cons, List.not_mem_nil, or_false] at hz
      rcases hz with rfl
      · exact Or.inr ⟨by decide, exN 2, by decide +kernel, gl_nc hGX (by decide +kernel)⟩) (by decide) (by decide) (by decide +kernel) (gp_nc hGP (w := .castable (exN 1) (exN 1)) (by decide +kernel)) hAt hce (fun q => ?_)
      refine jw_astore_n hX [(3, .ref q), (0, .ref x), (1, .int p0), (2, .ref o)] dL_end_22 rfl (by decide) rfl ?_
      refine jw_iconst (v := (2 : Int32)) hX dL_end_23 (by decide) ?_
      exact hret _ _ _ _ _ _ (by decide) (by decide) dL_end_24 (Or.inr ⟨_, w9, hq, rfl, rfl⟩)
  · rintro ov w' ⟨r, w9, hq, rfl, rfl⟩
    show JW X _ _ _ _ _ [.int r, .int 0, .ref o]
    refine jw_if_eq (tgt := 14) hX dL_end_7 (by decide) (fun hc => ?_) (fun hc => ?_)
    · have hv : v01 r = 0 := if_pos hc
      refine jw_lconst (v := 0) hX dL_end_14 (by decide) ?_
      refine jw_olast hX hT dL_end_15 ?_
      refine jw_goto (tgt := 25) hX dL_end_16 (by decide) ?_
      refine jw_iconst (v := (0 : Int32)) hX dL_end_25 (by decide) ?_
      exact hret _ _ _ _ _ _ (by decide) (by decide) dL_end_26 (Or.inl ⟨r, w9, hq, rfl, by rw [hv]⟩)
    · have hv : v01 r = 1 := if_neg hc
      refine jw_lconst (v := 1) hX dL_end_10 (by decide) ?_
      refine jw_goto (tgt := 15) hX dL_end_11 (by decide) ?_
      refine jw_olast hX hT dL_end_15 ?_
      refine jw_goto (tgt := 25) hX dL_end_16 (by decide) ?_
      refine jw_iconst (v := (0 : Int32)) hX dL_end_25 (by decide) ?_
      exact hret _ _ _ _ _ _ (by decide) (by decide) dL_end_26 (Or.inl ⟨r, w9, hq, rfl, by rw [hv]⟩)
abbrev rmL_signAt : Room := { frames := 8, cells := 2, slots := 12, locals := 138 }
set_option maxRecDepth 100000 in
set_option maxHeartbeats 4000000 in
theorem kL_signAt {l : Launch} {D : va_G} {tys : List (ClassId × FieldType)} {cI cZ cO cJ : ClassId} {gs : JP} {S : PS} {x o : Nat} {p0 : Int32} {p1 : Int32} {p2 : Int32} {f : Nat → Int64} {Q : Int32 → PS → Prop} {Qx : Nat → PS → Prop} (hT : tys = jTy cI cZ cO cJ) (hok : okP S x 6 = true)
    (hC : CX l (GP gs) D tys yX6_signAt wsX6_signAt rmX6_signAt [.ref x, .int p0, .int p1, .int p2] (pW cI cO S) (fun ov w2 => ∃ (r : Int32) (w9 : PS), Q r w9 ∧ ov = some (.int r) ∧ w2 = pW cI cO w9) (fun E w2 => ∃ (z : Nat) (w9 : PS), Qx z w9 ∧ E = exN z ∧ w2 = pW cI cO w9)) (hqx : ∀ (z : Nat) (w9 : PS), Qx z w9 → z = 2 ∨ z = 0) :
    CC l (GL gs) D tys yL_signAt wsL_signAt rmL_signAt [.ref x, .int p0, .int p1, .int p2, .ref o] ((o, oE cJ f) :: pW cI cO S) (fun ov w2 => (∃ (r : Int32) (w9 : PS), Q r w9 ∧ ov = some (.int 0) ∧ w2 = (o, oE cJ (vp_updL f 0 r.toInt64)) :: pW cI cO w9) ∨ (∃ (z : Nat) (w9 : PS), Qx z w9 ∧ ov = some (.int (if z = 2 then (1 : Int32) else if z = 0 then (2 : Int32) else 0)) ∧ w2 = (o, oE cJ f) :: pW cI cO w9)) := by
  refine CC_ofH (cc := cL_signAt) (maxL := 6) (hh := [(0, 12, 15, 25), (0, 12, 19, 13)]) (by decide) rfl (Nat.le_of_ble_eq_true rfl) ?_
  intro X hD hL hT0 hGX hX htab hret
  subst hD
  subst hL
  subst hT0
  have hGP := gl_gp hGX
  refine jw_aload hX dL_signAt_0 4 rfl ?_
  refine jw_iconst (v := (0 : Int32)) hX dL_signAt_2 (by decide) ?_
  refine jw_aload_n hX dL_signAt_3 rfl 0 rfl ?_
  refine jw_iload_n hX dL_signAt_4 rfl 1 rfl ?_
  refine jw_iload_n hX dL_signAt_5 rfl 2 rfl ?_
  refine jw_iload_n hX dL_signAt_6 rfl 3 rfl ?_
  refine jw_xF (As := [.int p0, .int p1, .int p2]) hX hGP 3 hC gL_signAt_X6_signAt rfl hdX6_signAt ⟨by decide, by decide⟩ 6 rfl (by decide) hok rfl (Nat.le_of_ble_eq_true rfl) dL_signAt_7 ⟨by decide, by decide⟩ ?_ ?_
  · rintro E ce q9 w' H1 locs1 ls ⟨z, w9, hq, rfl, rfl⟩ hAt hce
    rcases hqx z w9 hq with rfl | rfl
    · refine jw_catch hX (E := exN 2) [] ⟨0, 12, 15, 25⟩ [⟨0, 12, 19, 13⟩] htab (fun _ h => nomatch h) (by decide) (by decide) (by decide +kernel) (gp_nc hGP (w := .castable (exN 2) (exN 2)) (by decide +kernel)) hAt hce (fun q => ?_)
      refine jw_astore hX [(5, .ref q), (0, .ref x), (1, .int p0), (2, .int p1), (3, .int p2), (4, .ref o)] dL_signAt_15 (by decide) rfl ?_
      refine jw_iconst (v := (1 : Int32)) hX dL_signAt_17 (by decide) ?_
      exact hret _ _ _ _ _ _ (by decide) (by decide) dL_signAt_18 (Or.inr ⟨_, w9, hq, rfl, rfl⟩)
    · refine jw_catch hX (E := exN 0) [⟨0, 12, 15, 25⟩] ⟨0, 12, 19, 13⟩ [] htab (fun z hz => by
      simp only [List.mem_cons, List.not_mem_nil, or_false] at hz
      rcases hz with rfl
      · exact Or.inr ⟨by decide, exN 2, by decide +kernel, gl_nc hGX (by decide +kernel)⟩) (by decide) (by decide) (by decide +kernel) (gp_nc hGP (w := .castable (exN 0) (exN 0)) (by decide +kernel)) hAt hce (fun q => ?_)
      refine jw_astore hX [(5, .ref q), (0, .ref x), (1, .int p0), (2, .int p1), (3, .int p2), (4, .ref o)] dL_signAt_19 (by decide) rfl ?_
      refine jw_iconst (v := (2 : Int32)) hX dL_signAt_21 (by decide) ?_
      exact hret _ _ _ _ _ _ (by decide) (by decide) dL_signAt_22 (Or.inr ⟨_, w9, hq, rfl, rfl⟩)
  · rintro ov w' ⟨r, w9, hq, rfl, rfl⟩
    show JW X _ _ _ _ _ [.int r, .int 0, .ref o]
    refine jw_i2l (v := r.toInt64) hX dL_signAt_10 rfl ?_
    refine jw_olast hX hT dL_signAt_11 ?_
    refine jw_goto (tgt := 23) hX dL_signAt_12 (by decide) ?_
    refine jw_iconst (v := (0 : Int32)) hX dL_signAt_23 (by decide) ?_
    exact hret _ _ _ _ _ _ (by decide) (by decide) dL_signAt_24 (Or.inl ⟨r, w9, hq, rfl, rfl⟩)
abbrev rmL_length : Room := { frames := 8, cells := 2, slots := 12, locals := 137 }
set_option maxRecDepth 100000 in
set_option maxHeartbeats 4000000 in
theorem kL_length {l : Launch} {D : va_G} {tys : List (ClassId × FieldType)} {cI cZ cO cJ : ClassId} {gs : JP} {S : PS} {x o : Nat} {p0 : Int32} {p1 : Int32} {f : Nat → Int64} {Q : Int32 → PS → Prop} {Qx : Nat → PS → Prop} (hT : tys = jTy cI cZ cO cJ) (hok : okP S x 6 = true)
    (hC : CX l (GP gs) D tys yX6_length wsX6_length rmX6_length [.ref x, .int p0, .int p1] (pW cI cO S) (fun ov w2 => ∃ (r : Int32) (w9 : PS), Q r w9 ∧ ov = some (.int r) ∧ w2 = pW cI cO w9) (fun E w2 => ∃ (z : Nat) (w9 : PS), Qx z w9 ∧ E = exN z ∧ w2 = pW cI cO w9)) (hqx : ∀ (z : Nat) (w9 : PS), Qx z w9 → z = 2 ∨ z = 0) :
    CC l (GL gs) D tys yL_length wsL_length rmL_length [.ref x, .int p0, .int p1, .ref o] ((o, oE cJ f) :: pW cI cO S) (fun ov w2 => (∃ (r : Int32) (w9 : PS), Q r w9 ∧ ov = some (.int 0) ∧ w2 = (o, oE cJ (vp_updL f 0 r.toInt64)) :: pW cI cO w9) ∨ (∃ (z : Nat) (w9 : PS), Qx z w9 ∧ ov = some (.int (if z = 2 then (1 : Int32) else if z = 0 then (2 : Int32) else 0)) ∧ w2 = (o, oE cJ f) :: pW cI cO w9)) := by
  refine CC_ofH (cc := cL_length) (maxL := 5) (hh := [(0, 10, 13, 25), (0, 10, 17, 13)]) (by decide) rfl (Nat.le_of_ble_eq_true rfl) ?_
  intro X hD hL hT0 hGX hX htab hret
  subst hD
  subst hL
  subst hT0
  have hGP := gl_gp hGX
  refine jw_aload_n hX dL_length_0 rfl 3 rfl ?_
  refine jw_iconst (v := (0 : Int32)) hX dL_length_1 (by decide) ?_
  refine jw_aload_n hX dL_length_2 rfl 0 rfl ?_
  refine jw_iload_n hX dL_length_3 rfl 1 rfl ?_
  refine jw_iload_n hX dL_length_4 rfl 2 rfl ?_
  refine jw_xF (As := [.int p0, .int p1]) hX hGP 2 hC gL_length_X6_length rfl hdX6_length ⟨by decide, by decide⟩ 6 rfl (by decide) hok rfl (Nat.le_of_ble_eq_true rfl) dL_length_5 ⟨by decide, by decide⟩ ?_ ?_
  · rintro E ce q9 w' H1 locs1 ls ⟨z, w9, hq, rfl, rfl⟩ hAt hce
    rcases hqx z w9 hq with rfl | rfl
    · refine jw_catch hX (E := exN 2) [] ⟨0, 10, 13, 25⟩ [⟨0, 10, 17, 13⟩] htab (fun _ h => nomatch h) (by decide) (by decide) (by decide +kernel) (gp_nc hGP (w := .castable (exN 2) (exN 2)) (by decide +kernel)) hAt hce (fun q => ?_)
      refine jw_astore hX [(4, .ref q), (0, .ref x), (1, .int p0), (2, .int p1), (3, .ref o)] dL_length_13 (by decide) rfl ?_
      refine jw_iconst (v := (1 : Int32)) hX dL_length_15 (by decide) ?_
      exact hret _ _ _ _ _ _ (by decide) (by decide) dL_length_16 (Or.inr ⟨_, w9, hq, rfl, rfl⟩)
    · refine jw_catch hX (E := exN 0) [⟨0, 10, 13, 25⟩] ⟨0, 10, 17, 13⟩ [] htab (fun z hz => by
      simp only [List.mem_cons, List.not_mem_nil, or_false] at hz
      rcases hz with rfl
      · exact Or.inr ⟨by decide, exN 2, by decide +kernel, gl_nc hGX (by decide +kernel)⟩) (by decide) (by decide) (by decide +kernel) (gp_nc hGP (w := .castable (exN 0) (exN 0)) (by decide +kernel)) hAt hce (fun q => ?_)
      refine jw_astore hX [(4, .ref q), (0, .ref x), (1, .int p0), (2, .int p1), (3, .ref o)] dL_length_17 (by decide) rfl ?_
      refine jw_iconst (v := (2 : Int32)) hX dL_length_19 (by decide) ?_
      exact hret _ _ _ _ _ _ (by decide) (by decide) dL_length_20 (Or.inr ⟨_, w9, hq, rfl, rfl⟩)
  · rintro ov w' ⟨r, w9, hq, rfl, rfl⟩
    show JW X _ _ _ _ _ [.int r, .int 0, .ref o]
    refine jw_i2l (v := r.toInt64) hX dL_length_8 rfl ?_
    refine jw_olast hX hT dL_length_9 ?_
    refine jw_goto (tgt := 21) hX dL_length_10 (by decide) ?_
    refine jw_iconst (v := (0 : Int32)) hX dL_length_21 (by decide) ?_
    exact hret _ _ _ _ _ _ (by decide) (by decide) dL_length_22 (Or.inl ⟨r, w9, hq, rfl, rfl⟩)
abbrev rmL_proof : Room := { frames := 8, cells := 1, slots := 6, locals := 132 }
set_option maxRecDepth 100000 in
set_option maxHeartbeats 4000000 in
theorem kL_proof {l : Launch} {D : va_G} {tys : List (ClassId × FieldType)} {cI cZ cO cJ : ClassId} {gs : JP} {S : PS} {x o : Nat} {p0 : Int32} {f : Nat → Int64} {Q : Int32 → PS → Prop} {Qx : Nat → PS → Prop} (hT : tys = jTy cI cZ cO cJ) (hok : okP S x 6 = true)
    (hC : CX l (GP gs) D tys yX6_proof wsX6_proof rmX6_proof [.ref x, .int p0] (pW cI cO S) (fun ov w2 => ∃ (r : Int32) (w9 : PS), Q r w9 ∧ ov = some (.int r) ∧ w2 = pW cI cO w9) (fun E w2 => ∃ (z : Nat) (w9 : PS), Qx z w9 ∧ E = exN z ∧ w2 = pW cI cO w9)) (hqx : ∀ (z : Nat) (w9 : PS), Qx z w9 → z = 2) :
    CC l (GL gs) D tys yL_proof wsL_proof rmL_proof [.ref x, .int p0, .ref o] ((o, oE cJ f) :: pW cI cO S) (fun ov w2 => (∃ (r : Int32) (w9 : PS), Q r w9 ∧ ov = some (.int 0) ∧ w2 = (o, oE cJ (vp_updL f 0 r.toInt64)) :: pW cI cO w9) ∨ (∃ (z : Nat) (w9 : PS), Qx z w9 ∧ ov = some (.int (if z = 2 then (1 : Int32) else 0)) ∧ w2 = (o, oE cJ f) :: pW cI cO w9)) := by
  refine CC_ofH (cc := cL_proof) (maxL := 4) (hh := [(0, 9, 12, 25)]) (by decide) rfl (Nat.le_of_ble_eq_true rfl) ?_
  intro X hD hL hT0 hGX hX htab hret
  subst hD
  subst hL
  subst hT0
  have hGP := gl_gp hGX
  refine jw_aload_n hX dL_proof_0 rfl 2 rfl ?_
  refine jw_iconst (v := (0 : Int32)) hX dL_proof_1 (by decide) ?_
  refine jw_aload_n hX dL_proof_2 rfl 0 rfl ?_
  refine jw_iload_n hX dL_proof_3 rfl 1 rfl ?_
  refine jw_xF (As := [.int p0]) hX hGP 1 hC gL_proof_X6_proof rfl hdX6_proof ⟨by decide, by decide⟩ 6 rfl (by decide) hok rfl (Nat.le_of_ble_eq_true rfl) dL_proof_4 ⟨by decide, by decide⟩ ?_ ?_
  · rintro E ce q9 w' H1 locs1 ls ⟨z, w9, hq, rfl, rfl⟩ hAt hce
    rcases hqx z w9 hq with rfl
    · refine jw_catch hX (E := exN 2) [] ⟨0, 9, 12, 25⟩ [] htab (fun _ h => nomatch h) (by decide) (by decide) (by decide +kernel) (gp_nc hGP (w := .castable (exN 2) (exN 2)) (by decide +kernel)) hAt hce (fun q => ?_)
      refine jw_astore_n hX [(3, .ref q), (0, .ref x), (1, .int p0), (2, .ref o)] dL_proof_12 rfl (by decide) rfl ?_
      refine jw_iconst (v := (1 : Int32)) hX dL_proof_13 (by decide) ?_
      exact hret _ _ _ _ _ _ (by decide) (by decide) dL_proof_14 (Or.inr ⟨_, w9, hq, rfl, rfl⟩)
  · rintro ov w' ⟨r, w9, hq, rfl, rfl⟩
    show JW X _ _ _ _ _ [.int r, .int 0, .ref o]
    refine jw_i2l (v := r.toInt64) hX dL_proof_7 rfl ?_
    refine jw_olast hX hT dL_proof_8 ?_
    refine jw_goto (tgt := 15) hX dL_proof_9 (by decide) ?_
    refine jw_iconst (v := (0 : Int32)) hX dL_proof_15 (by decide) ?_
    exact hret _ _ _ _ _ _ (by decide) (by decide) dL_proof_16 (Or.inl ⟨r, w9, hq, rfl, rfl⟩)
abbrev rmL_proofAnew : Room := { frames := 8, cells := 1, slots := 6, locals := 132 }
set_option maxRecDepth 100000 in
set_option maxHeartbeats 4000000 in
theorem kL_proofAnew {l : Launch} {D : va_G} {tys : List (ClassId × FieldType)} {cI cZ cO cJ : ClassId} {gs : JP} {S : PS} {x o : Nat} {p0 : Int32} {f : Nat → Int64} {Q : Int32 → PS → Prop} {Qx : Nat → PS → Prop} (hT : tys = jTy cI cZ cO cJ) (hok : okP S x 6 = true)
    (hC : CX l (GP gs) D tys yX6_proofAnew wsX6_proofAnew rmX6_proofAnew [.ref x, .int p0] (pW cI cO S) (fun ov w2 => ∃ (r : Int32) (w9 : PS), Q r w9 ∧ ov = some (.int r) ∧ w2 = pW cI cO w9) (fun E w2 => ∃ (z : Nat) (w9 : PS), Qx z w9 ∧ E = exN z ∧ w2 = pW cI cO w9)) (hqx : ∀ (z : Nat) (w9 : PS), Qx z w9 → z = 2) :
    CC l (GL gs) D tys yL_proofAnew wsL_proofAnew rmL_proofAnew [.ref x, .int p0, .ref o] ((o, oE cJ f) :: pW cI cO S) (fun ov w2 => (∃ (r : Int32) (w9 : PS), Q r w9 ∧ ov = some (.int 0) ∧ w2 = (o, oE cJ (vp_updL f 0 r.toInt64)) :: pW cI cO w9) ∨ (∃ (z : Nat) (w9 : PS), Qx z w9 ∧ ov = some (.int (if z = 2 then (1 : Int32) else 0)) ∧ w2 = (o, oE cJ f) :: pW cI cO w9)) := by
  refine CC_ofH (cc := cL_proofAnew) (maxL := 4) (hh := [(0, 9, 12, 25)]) (by decide) rfl (Nat.le_of_ble_eq_true rfl) ?_
  intro X hD hL hT0 hGX hX htab hret
  subst hD
  subst hL
  subst hT0
  have hGP := gl_gp hGX
  refine jw_aload_n hX dL_proofAnew_0 rfl 2 rfl ?_
  refine jw_iconst (v := (0 : Int32)) hX dL_proofAnew_1 (by decide) ?_
  refine jw_aload_n hX dL_proofAnew_2 rfl 0 rfl ?_
  refine jw_iload_n hX dL_proofAnew_3 rfl 1 rfl ?_
  refine jw_xF (As := [.int p0]) hX hGP 1 hC gL_proofAnew_X6_proofAnew rfl hdX6_proofAnew ⟨by decide, by decide⟩ 6 rfl (by decide) hok rfl (Nat.le_of_ble_eq_true rfl) dL_proofAnew_4 ⟨by decide, by decide⟩ ?_ ?_
  · rintro E ce q9 w' H1 locs1 ls ⟨z, w9, hq, rfl, rfl⟩ hAt hce
    rcases hqx z w9 hq with rfl
    · refine jw_catch hX (E := exN 2) [] ⟨0, 9, 12, 25⟩ [] htab (fun _ h => nomatch h) (by decide) (by decide) (by decide +kernel) (gp_nc hGP (w := .castable (exN 2) (exN 2)) (by decide +kernel)) hAt hce (fun q => ?_)
      refine jw_astore_n hX [(3, .ref q), (0, .ref x), (1, .int p0), (2, .ref o)] dL_proofAnew_12 rfl (by decide) rfl ?_
      refine jw_iconst (v := (1 : Int32)) hX dL_proofAnew_13 (by decide) ?_
      exact hret _ _ _ _ _ _ (by decide) (by decide) dL_proofAnew_14 (Or.inr ⟨_, w9, hq, rfl, rfl⟩)
  · rintro ov w' ⟨r, w9, hq, rfl, rfl⟩
    show JW X _ _ _ _ _ [.int r, .int 0, .ref o]
    refine jw_i2l (v := r.toInt64) hX dL_proofAnew_7 rfl ?_
    refine jw_olast hX hT dL_proofAnew_8 ?_
    refine jw_goto (tgt := 15) hX dL_proofAnew_9 (by decide) ?_
    refine jw_iconst (v := (0 : Int32)) hX dL_proofAnew_15 (by decide) ?_
    exact hret _ _ _ _ _ _ (by decide) (by decide) dL_proofAnew_16 (Or.inl ⟨r, w9, hq, rfl, rfl⟩)
abbrev rmL_gets : Room := { frames := 8, cells := 2, slots := 12, locals := 134 }
set_option maxRecDepth 100000 in
set_option maxHeartbeats 4000000 in
theorem kL_gets {l : Launch} {D : va_G} {tys : List (ClassId × FieldType)} {cI cZ cO cJ : ClassId} {gs : JP} {S : PS} {x o : Nat} {p0 : Int32} {p1 : Int32} {f : Nat → Int64} {Q : Int32 → PS → Prop} {Qx : Nat → PS → Prop} (hT : tys = jTy cI cZ cO cJ) (hok : okP S x 6 = true)
    (hC : CX l (GP gs) D tys yX6_gets wsX6_gets rmX6_gets [.ref x, .int p0, .int p1] (pW cI cO S) (fun ov w2 => ∃ (r : Int32) (w9 : PS), Q r w9 ∧ ov = some (.int r) ∧ w2 = pW cI cO w9) (fun E w2 => ∃ (z : Nat) (w9 : PS), Qx z w9 ∧ E = exN z ∧ w2 = pW cI cO w9)) (hqx : ∀ (z : Nat) (w9 : PS), Qx z w9 → z = 2 ∨ z = 0) :
    CC l (GL gs) D tys yL_gets wsL_gets rmL_gets [.ref x, .int p0, .int p1, .ref o] ((o, oE cJ f) :: pW cI cO S) (fun ov w2 => (∃ (r : Int32) (w9 : PS), Q r w9 ∧ ov = some (.int 0) ∧ w2 = (o, oE cJ (vp_updL f 0 r.toInt64)) :: pW cI cO w9) ∨ (∃ (z : Nat) (w9 : PS), Qx z w9 ∧ ov = some (.int (if z = 2 then (1 : Int32) else if z = 0 then (2 : Int32) else 0)) ∧ w2 = (o, oE cJ f) :: pW cI cO w9)) := by
  refine CC_ofH (cc := cL_gets) (maxL := 5) (hh := [(0, 10, 13, 25), (0, 10, 17, 13)]) (by decide) rfl (Nat.le_of_ble_eq_true rfl) ?_
  intro X hD hL hT0 hGX hX htab hret
  subst hD
  subst hL
  subst hT0
  have hGP := gl_gp hGX
  refine jw_aload_n hX dL_gets_0 rfl 3 rfl ?_
  refine jw_iconst (v := (0 : Int32)) hX dL_gets_1 (by decide) ?_
  refine jw_aload_n hX dL_gets_2 rfl 0 rfl ?_
  refine jw_iload_n hX dL_gets_3 rfl 1 rfl ?_
  refine jw_iload_n hX dL_gets_4 rfl 2 rfl ?_
  refine jw_xF (As := [.int p0, .int p1]) hX hGP 2 hC gL_gets_X6_gets rfl hdX6_gets ⟨by decide, by decide⟩ 6 rfl (by decide) hok rfl (Nat.le_of_ble_eq_true rfl) dL_gets_5 ⟨by decide, by decide⟩ ?_ ?_
  · rintro E ce q9 w' H1 locs1 ls ⟨z, w9, hq, rfl, rfl⟩ hAt hce
    rcases hqx z w9 hq with rfl | rfl
    · refine jw_catch hX (E := exN 2) [] ⟨0, 10, 13, 25⟩ [⟨0, 10, 17, 13⟩] htab (fun _ h => nomatch h) (by decide) (by decide) (by decide +kernel) (gp_nc hGP (w := .castable (exN 2) (exN 2)) (by decide +kernel)) hAt hce (fun q => ?_)
      refine jw_astore hX [(4, .ref q), (0, .ref x), (1, .int p0), (2, .int p1), (3, .ref o)] dL_gets_13 (by decide) rfl ?_
      refine jw_iconst (v := (1 : Int32)) hX dL_gets_15 (by decide) ?_
      exact hret _ _ _ _ _ _ (by decide) (by decide) dL_gets_16 (Or.inr ⟨_, w9, hq, rfl, rfl⟩)
    · refine jw_catch hX (E := exN 0) [⟨0, 10, 13, 25⟩] ⟨0, 10, 17, 13⟩ [] htab (fun z hz => by
      simp only [List.mem_cons, List.not_mem_nil, or_false] at hz
      rcases hz with rfl
      · exact Or.inr ⟨by decide, exN 2, by decide +kernel, gl_nc hGX (by decide +kernel)⟩) (by decide) (by decide) (by decide +kernel) (gp_nc hGP (w := .castable (exN 0) (exN 0)) (by decide +kernel)) hAt hce (fun q => ?_)
      refine jw_astore hX [(4, .ref q), (0, .ref x), (1, .int p0), (2, .int p1), (3, .ref o)] dL_gets_17 (by decide) rfl ?_
      refine jw_iconst (v := (2 : Int32)) hX dL_gets_19 (by decide) ?_
      exact hret _ _ _ _ _ _ (by decide) (by decide) dL_gets_20 (Or.inr ⟨_, w9, hq, rfl, rfl⟩)
  · rintro ov w' ⟨r, w9, hq, rfl, rfl⟩
    show JW X _ _ _ _ _ [.int r, .int 0, .ref o]
    refine jw_i2l (v := r.toInt64) hX dL_gets_8 rfl ?_
    refine jw_olast hX hT dL_gets_9 ?_
    refine jw_goto (tgt := 21) hX dL_gets_10 (by decide) ?_
    refine jw_iconst (v := (0 : Int32)) hX dL_gets_21 (by decide) ?_
    exact hret _ _ _ _ _ _ (by decide) (by decide) dL_gets_22 (Or.inl ⟨r, w9, hq, rfl, rfl⟩)
abbrev rmL_sum : Room := { frames := 8, cells := 2, slots := 12, locals := 133 }
set_option maxRecDepth 100000 in
set_option maxHeartbeats 4000000 in
theorem kL_sum {l : Launch} {D : va_G} {tys : List (ClassId × FieldType)} {cI cZ cO cJ : ClassId} {gs : JP} {S : PS} {x o : Nat} {p0 : Int32} {p1 : Int32} {f : Nat → Int64} {Q : Int32 → PS → Prop} {Qx : Nat → PS → Prop} (hT : tys = jTy cI cZ cO cJ) (hok : okP S x 6 = true)
    (hC : CX l (GP gs) D tys yX6_sum wsX6_sum rmX6_sum [.ref x, .int p0, .int p1] (pW cI cO S) (fun ov w2 => ∃ (r : Int32) (w9 : PS), Q r w9 ∧ ov = some (.int r) ∧ w2 = pW cI cO w9) (fun E w2 => ∃ (z : Nat) (w9 : PS), Qx z w9 ∧ E = exN z ∧ w2 = pW cI cO w9)) (hqx : ∀ (z : Nat) (w9 : PS), Qx z w9 → z = 2 ∨ z = 0) :
    CC l (GL gs) D tys yL_sum wsL_sum rmL_sum [.ref x, .int p0, .int p1, .ref o] ((o, oE cJ f) :: pW cI cO S) (fun ov w2 => (∃ (r : Int32) (w9 : PS), Q r w9 ∧ ov = some (.int 0) ∧ w2 = (o, oE cJ (vp_updL f 0 r.toInt64)) :: pW cI cO w9) ∨ (∃ (z : Nat) (w9 : PS), Qx z w9 ∧ ov = some (.int (if z = 2 then (1 : Int32) else if z = 0 then (2 : Int32) else 0)) ∧ w2 = (o, oE cJ f) :: pW cI cO w9)) := by
  refine CC_ofH (cc := cL_sum) (maxL := 5) (hh := [(0, 10, 13, 25), (0, 10, 17, 13)]) (by decide) rfl (Nat.le_of_ble_eq_true rfl) ?_
  intro X hD hL hT0 hGX hX htab hret
  subst hD
  subst hL
  subst hT0
  have hGP := gl_gp hGX
  refine jw_aload_n hX dL_sum_0 rfl 3 rfl ?_
  refine jw_iconst (v := (0 : Int32)) hX dL_sum_1 (by decide) ?_
  refine jw_aload_n hX dL_sum_2 rfl 0 rfl ?_
  refine jw_iload_n hX dL_sum_3 rfl 1 rfl ?_
  refine jw_iload_n hX dL_sum_4 rfl 2 rfl ?_
  refine jw_xF (As := [.int p0, .int p1]) hX hGP 2 hC gL_sum_X6_sum rfl hdX6_sum ⟨by decide, by decide⟩ 6 rfl (by decide) hok rfl (Nat.le_of_ble_eq_true rfl) dL_sum_5 ⟨by decide, by decide⟩ ?_ ?_
  · rintro E ce q9 w' H1 locs1 ls ⟨z, w9, hq, rfl, rfl⟩ hAt hce
    rcases hqx z w9 hq with rfl | rfl
    · refine jw_catch hX (E := exN 2) [] ⟨0, 10, 13, 25⟩ [⟨0, 10, 17, 13⟩] htab (fun _ h => nomatch h) (by decide) (by decide) (by decide +kernel) (gp_nc hGP (w := .castable (exN 2) (exN 2)) (by decide +kernel)) hAt hce (fun q => ?_)
      refine jw_astore hX [(4, .ref q), (0, .ref x), (1, .int p0), (2, .int p1), (3, .ref o)] dL_sum_13 (by decide) rfl ?_
      refine jw_iconst (v := (1 : Int32)) hX dL_sum_15 (by decide) ?_
      exact hret _ _ _ _ _ _ (by decide) (by decide) dL_sum_16 (Or.inr ⟨_, w9, hq, rfl, rfl⟩)
    · refine jw_catch hX (E := exN 0) [⟨0, 10, 13, 25⟩] ⟨0, 10, 17, 13⟩ [] htab (fun z hz => by
      simp only [List.mem_cons, List.not_mem_nil, or_false] at hz
      rcases hz with rfl
      · exact Or.inr ⟨by decide, exN 2, by decide +kernel, gl_nc hGX (by decide +kernel)⟩) (by decide) (by decide) (by decide +kernel) (gp_nc hGP (w := .castable (exN 0) (exN 0)) (by decide +kernel)) hAt hce (fun q => ?_)
      refine jw_astore hX [(4, .ref q), (0, .ref x), (1, .int p0), (2, .int p1), (3, .ref o)] dL_sum_17 (by decide) rfl ?_
      refine jw_iconst (v := (2 : Int32)) hX dL_sum_19 (by decide) ?_
      exact hret _ _ _ _ _ _ (by decide) (by decide) dL_sum_20 (Or.inr ⟨_, w9, hq, rfl, rfl⟩)
  · rintro ov w' ⟨r, w9, hq, rfl, rfl⟩
    show JW X _ _ _ _ _ [.int r, .int 0, .ref o]
    refine jw_i2l (v := r.toInt64) hX dL_sum_8 rfl ?_
    refine jw_olast hX hT dL_sum_9 ?_
    refine jw_goto (tgt := 21) hX dL_sum_10 (by decide) ?_
    refine jw_iconst (v := (0 : Int32)) hX dL_sum_21 (by decide) ?_
    exact hret _ _ _ _ _ _ (by decide) (by decide) dL_sum_22 (Or.inl ⟨r, w9, hq, rfl, rfl⟩)
abbrev rmL_doubts : Room := { frames := 8, cells := 1, slots := 6, locals := 134 }
set_option maxRecDepth 100000 in
set_option maxHeartbeats 4000000 in
theorem kL_doubts {l : Launch} {D : va_G} {tys : List (ClassId × FieldType)} {cI cZ cO cJ : ClassId} {gs : JP} {S : PS} {x o : Nat} {p0 : Int32} {f : Nat → Int64} {Q : Int32 → PS → Prop} {Qx : Nat → PS → Prop} (hT : tys = jTy cI cZ cO cJ) (hok : okP S x 6 = true)
    (hC : CX l (GP gs) D tys yX6_doubts wsX6_doubts rmX6_doubts [.ref x, .int p0] (pW cI cO S) (fun ov w2 => ∃ (r : Int32) (w9 : PS), Q r w9 ∧ ov = some (.int r) ∧ w2 = pW cI cO w9) (fun E w2 => ∃ (z : Nat) (w9 : PS), Qx z w9 ∧ E = exN z ∧ w2 = pW cI cO w9)) (hqx : ∀ (z : Nat) (w9 : PS), Qx z w9 → z = 2) :
    CC l (GL gs) D tys yL_doubts wsL_doubts rmL_doubts [.ref x, .int p0, .ref o] ((o, oE cJ f) :: pW cI cO S) (fun ov w2 => (∃ (r : Int32) (w9 : PS), Q r w9 ∧ ov = some (.int 0) ∧ w2 = (o, oE cJ (vp_updL f 0 r.toInt64)) :: pW cI cO w9) ∨ (∃ (z : Nat) (w9 : PS), Qx z w9 ∧ ov = some (.int (if z = 2 then (1 : Int32) else 0)) ∧ w2 = (o, oE cJ f) :: pW cI cO w9)) := by
  refine CC_ofH (cc := cL_doubts) (maxL := 4) (hh := [(0, 9, 12, 25)]) (by decide) rfl (Nat.le_of_ble_eq_true rfl) ?_
  intro X hD hL hT0 hGX hX htab hret
  subst hD
  subst hL
  subst hT0
  have hGP := gl_gp hGX
  refine jw_aload_n hX dL_doubts_0 rfl 2 rfl ?_
  refine jw_iconst (v := (0 : Int32)) hX dL_doubts_1 (by decide) ?_
  refine jw_aload_n hX dL_doubts_2 rfl 0 rfl ?_
  refine jw_iload_n hX dL_doubts_3 rfl 1 rfl ?_
  refine jw_xF (As := [.int p0]) hX hGP 1 hC gL_doubts_X6_doubts rfl hdX6_doubts ⟨by decide, by decide⟩ 6 rfl (by decide) hok rfl (Nat.le_of_ble_eq_true rfl) dL_doubts_4 ⟨by decide, by decide⟩ ?_ ?_
  · rintro E ce q9 w' H1 locs1 ls ⟨z, w9, hq, rfl, rfl⟩ hAt hce
    rcases hqx z w9 hq with rfl
    · refine jw_catch hX (E := exN 2) [] ⟨0, 9, 12, 25⟩ [] htab (fun _ h => nomatch h) (by decide) (by decide) (by decide +kernel) (gp_nc hGP (w := .castable (exN 2) (exN 2)) (by decide +kernel)) hAt hce (fun q => ?_)
      refine jw_astore_n hX [(3, .ref q), (0, .ref x), (1, .int p0), (2, .ref o)] dL_doubts_12 rfl (by decide) rfl ?_
      refine jw_iconst (v := (1 : Int32)) hX dL_doubts_13 (by decide) ?_
      exact hret _ _ _ _ _ _ (by decide) (by decide) dL_doubts_14 (Or.inr ⟨_, w9, hq, rfl, rfl⟩)
  · rintro ov w' ⟨r, w9, hq, rfl, rfl⟩
    show JW X _ _ _ _ _ [.int r, .int 0, .ref o]
    refine jw_i2l (v := r.toInt64) hX dL_doubts_7 rfl ?_
    refine jw_olast hX hT dL_doubts_8 ?_
    refine jw_goto (tgt := 15) hX dL_doubts_9 (by decide) ?_
    refine jw_iconst (v := (0 : Int32)) hX dL_doubts_15 (by decide) ?_
    exact hret _ _ _ _ _ _ (by decide) (by decide) dL_doubts_16 (Or.inl ⟨r, w9, hq, rfl, rfl⟩)
abbrev rmL_doubted : Room := { frames := 8, cells := 1, slots := 6, locals := 154 }
set_option maxRecDepth 100000 in
set_option maxHeartbeats 4000000 in
theorem kL_doubted {l : Launch} {D : va_G} {tys : List (ClassId × FieldType)} {cI cZ cO cJ : ClassId} {gs : JP} {S : PS} {x o : Nat} {p0 : Int32} {f : Nat → Int64} {Q : Int32 → PS → Prop} {Qx : Nat → PS → Prop} (hT : tys = jTy cI cZ cO cJ) (hok : okP S x 6 = true)
    (hC : CX l (GP gs) D tys yX6_doubted wsX6_doubted rmX6_doubted [.ref x, .int p0] (pW cI cO S) (fun ov w2 => ∃ (r : Int32) (w9 : PS), Q r w9 ∧ ov = some (.int r) ∧ w2 = pW cI cO w9) (fun E w2 => ∃ (z : Nat) (w9 : PS), Qx z w9 ∧ E = exN z ∧ w2 = pW cI cO w9)) (hqx : ∀ (z : Nat) (w9 : PS), Qx z w9 → z = 2) :
    CC l (GL gs) D tys yL_doubted wsL_doubted rmL_doubted [.ref x, .int p0, .ref o] ((o, oE cJ f) :: pW cI cO S) (fun ov w2 => (∃ (r : Int32) (w9 : PS), Q r w9 ∧ ov = some (.int 0) ∧ w2 = (o, oE cJ (vp_updL f 0 r.toInt64)) :: pW cI cO w9) ∨ (∃ (z : Nat) (w9 : PS), Qx z w9 ∧ ov = some (.int (if z = 2 then (1 : Int32) else 0)) ∧ w2 = (o, oE cJ f) :: pW cI cO w9)) := by
  refine CC_ofH (cc := cL_doubted) (maxL := 4) (hh := [(0, 9, 12, 25)]) (by decide) rfl (Nat.le_of_ble_eq_true rfl) ?_
  intro X hD hL hT0 hGX hX htab hret
  subst hD
  subst hL
  subst hT0
  have hGP := gl_gp hGX
  refine jw_aload_n hX dL_doubted_0 rfl 2 rfl ?_
  refine jw_iconst (v := (0 : Int32)) hX dL_doubted_1 (by decide) ?_
  refine jw_aload_n hX dL_doubted_2 rfl 0 rfl ?_
  refine jw_iload_n hX dL_doubted_3 rfl 1 rfl ?_
  refine jw_xF (As := [.int p0]) hX hGP 1 hC gL_doubted_X6_doubted rfl hdX6_doubted ⟨by decide, by decide⟩ 6 rfl (by decide) hok rfl (Nat.le_of_ble_eq_true rfl) dL_doubted_4 ⟨by decide, by decide⟩ ?_ ?_
  · rintro E ce q9 w' H1 locs1 ls ⟨z, w9, hq, rfl, rfl⟩ hAt hce
    rcases hqx z w9 hq with rfl
    · refine jw_catch hX (E := exN 2) [] ⟨0, 9, 12, 25⟩ [] htab (fun _ h => nomatch h) (by decide) (by decide) (by decide +kernel) (gp_nc hGP (w := .castable (exN 2) (exN 2)) (by decide +kernel)) hAt hce (fun q => ?_)
      refine jw_astore_n hX [(3, .ref q), (0, .ref x), (1, .int p0), (2, .ref o)] dL_doubted_12 rfl (by decide) rfl ?_
      refine jw_iconst (v := (1 : Int32)) hX dL_doubted_13 (by decide) ?_
      exact hret _ _ _ _ _ _ (by decide) (by decide) dL_doubted_14 (Or.inr ⟨_, w9, hq, rfl, rfl⟩)
  · rintro ov w' ⟨r, w9, hq, rfl, rfl⟩
    show JW X _ _ _ _ _ [.int r, .int 0, .ref o]
    refine jw_i2l (v := r.toInt64) hX dL_doubted_7 rfl ?_
    refine jw_olast hX hT dL_doubted_8 ?_
    refine jw_goto (tgt := 15) hX dL_doubted_9 (by decide) ?_
    refine jw_iconst (v := (0 : Int32)) hX dL_doubted_15 (by decide) ?_
    exact hret _ _ _ _ _ _ (by decide) (by decide) dL_doubted_16 (Or.inl ⟨r, w9, hq, rfl, rfl⟩)
abbrev rmL_isFrozen : Room := { frames := 8, cells := 1, slots := 6, locals := 132 }
set_option maxRecDepth 100000 in
set_option maxHeartbeats 4000000 in
theorem kL_isFrozen {l : Launch} {D : va_G} {tys : List (ClassId × FieldType)} {cI cZ cO cJ : ClassId} {gs : JP} {S : PS} {x o : Nat} {p0 : Int32} {f : Nat → Int64} {Q : Int32 → PS → Prop} {Qx : Nat → PS → Prop} (hT : tys = jTy cI cZ cO cJ) (hok : okP S x 6 = true)
    (hC : CX l (GP gs) D tys yX6_isFrozen wsX6_isFrozen rmX6_isFrozen [.ref x, .int p0] (pW cI cO S) (fun ov w2 => ∃ (r : Int32) (w9 : PS), Q r w9 ∧ ov = some (.int r) ∧ w2 = pW cI cO w9) (fun E w2 => ∃ (z : Nat) (w9 : PS), Qx z w9 ∧ E = exN z ∧ w2 = pW cI cO w9)) (hqx : ∀ (z : Nat) (w9 : PS), Qx z w9 → z = 2) :
    CC l (GL gs) D tys yL_isFrozen wsL_isFrozen rmL_isFrozen [.ref x, .int p0, .ref o] ((o, oE cJ f) :: pW cI cO S) (fun ov w2 => (∃ (r : Int32) (w9 : PS), Q r w9 ∧ ov = some (.int 0) ∧ w2 = (o, oE cJ (vp_updL f 0 (v01 r))) :: pW cI cO w9) ∨ (∃ (z : Nat) (w9 : PS), Qx z w9 ∧ ov = some (.int (if z = 2 then (1 : Int32) else 0)) ∧ w2 = (o, oE cJ f) :: pW cI cO w9)) := by
  refine CC_ofH (cc := cL_isFrozen) (maxL := 4) (hh := [(0, 16, 19, 25)]) (by decide) rfl (Nat.le_of_ble_eq_true rfl) ?_
  intro X hD hL hT0 hGX hX htab hret
  subst hD
  subst hL
  subst hT0
  have hGP := gl_gp hGX
  refine jw_aload_n hX dL_isFrozen_0 rfl 2 rfl ?_
  refine jw_iconst (v := (0 : Int32)) hX dL_isFrozen_1 (by decide) ?_
  refine jw_aload_n hX dL_isFrozen_2 rfl 0 rfl ?_
  refine jw_iload_n hX dL_isFrozen_3 rfl 1 rfl ?_
  refine jw_xF (As := [.int p0]) hX hGP 1 hC gL_isFrozen_X6_isFrozen rfl hdX6_isFrozen ⟨by decide, by decide⟩ 6 rfl (by decide) hok rfl (Nat.le_of_ble_eq_true rfl) dL_isFrozen_4 ⟨by decide, by decide⟩ ?_ ?_
  · rintro E ce q9 w' H1 locs1 ls ⟨z, w9, hq, rfl, rfl⟩ hAt hce
    rcases hqx z w9 hq with rfl
    · refine jw_catch hX (E := exN 2) [] ⟨0, 16, 19, 25⟩ [] htab (fun _ h => nomatch h) (by decide) (by decide) (by decide +kernel) (gp_nc hGP (w := .castable (exN 2) (exN 2)) (by decide +kernel)) hAt hce (fun q => ?_)
      refine jw_astore_n hX [(3, .ref q), (0, .ref x), (1, .int p0), (2, .ref o)] dL_isFrozen_19 rfl (by decide) rfl ?_
      refine jw_iconst (v := (1 : Int32)) hX dL_isFrozen_20 (by decide) ?_
      exact hret _ _ _ _ _ _ (by decide) (by decide) dL_isFrozen_21 (Or.inr ⟨_, w9, hq, rfl, rfl⟩)
  · rintro ov w' ⟨r, w9, hq, rfl, rfl⟩
    show JW X _ _ _ _ _ [.int r, .int 0, .ref o]
    refine jw_if_eq (tgt := 14) hX dL_isFrozen_7 (by decide) (fun hc => ?_) (fun hc => ?_)
    · have hv : v01 r = 0 := if_pos hc
      refine jw_lconst (v := 0) hX dL_isFrozen_14 (by decide) ?_
      refine jw_olast hX hT dL_isFrozen_15 ?_
      refine jw_goto (tgt := 22) hX dL_isFrozen_16 (by decide) ?_
      refine jw_iconst (v := (0 : Int32)) hX dL_isFrozen_22 (by decide) ?_
      exact hret _ _ _ _ _ _ (by decide) (by decide) dL_isFrozen_23 (Or.inl ⟨r, w9, hq, rfl, by rw [hv]⟩)
    · have hv : v01 r = 1 := if_neg hc
      refine jw_lconst (v := 1) hX dL_isFrozen_10 (by decide) ?_
      refine jw_goto (tgt := 15) hX dL_isFrozen_11 (by decide) ?_
      refine jw_olast hX hT dL_isFrozen_15 ?_
      refine jw_goto (tgt := 22) hX dL_isFrozen_16 (by decide) ?_
      refine jw_iconst (v := (0 : Int32)) hX dL_isFrozen_22 (by decide) ?_
      exact hret _ _ _ _ _ _ (by decide) (by decide) dL_isFrozen_23 (Or.inl ⟨r, w9, hq, rfl, by rw [hv]⟩)
abbrev rmL_holds : Room := { frames := 8, cells := 1, slots := 6, locals := 132 }
set_option maxRecDepth 100000 in
set_option maxHeartbeats 4000000 in
theorem kL_holds {l : Launch} {D : va_G} {tys : List (ClassId × FieldType)} {cI cZ cO cJ : ClassId} {gs : JP} {S : PS} {x o : Nat} {p0 : Int32} {f : Nat → Int64} {Q : Int32 → PS → Prop} {Qx : Nat → PS → Prop} (hT : tys = jTy cI cZ cO cJ) (hok : okP S x 6 = true)
    (hC : CX l (GP gs) D tys yX6_holds wsX6_holds rmX6_holds [.ref x, .int p0] (pW cI cO S) (fun ov w2 => ∃ (r : Int32) (w9 : PS), Q r w9 ∧ ov = some (.int r) ∧ w2 = pW cI cO w9) (fun E w2 => ∃ (z : Nat) (w9 : PS), Qx z w9 ∧ E = exN z ∧ w2 = pW cI cO w9)) (hqx : ∀ (z : Nat) (w9 : PS), Qx z w9 → z = 2) :
    CC l (GL gs) D tys yL_holds wsL_holds rmL_holds [.ref x, .int p0, .ref o] ((o, oE cJ f) :: pW cI cO S) (fun ov w2 => (∃ (r : Int32) (w9 : PS), Q r w9 ∧ ov = some (.int 0) ∧ w2 = (o, oE cJ (vp_updL f 0 (v01 r))) :: pW cI cO w9) ∨ (∃ (z : Nat) (w9 : PS), Qx z w9 ∧ ov = some (.int (if z = 2 then (1 : Int32) else 0)) ∧ w2 = (o, oE cJ f) :: pW cI cO w9)) := by
  refine CC_ofH (cc := cL_holds) (maxL := 4) (hh := [(0, 16, 19, 25)]) (by decide) rfl (Nat.le_of_ble_eq_true rfl) ?_
  intro X hD hL hT0 hGX hX htab hret
  subst hD
  subst hL
  subst hT0
  have hGP := gl_gp hGX
  refine jw_aload_n hX dL_holds_0 rfl 2 rfl ?_
  refine jw_iconst (v := (0 : Int32)) hX dL_holds_1 (by decide) ?_
  refine jw_aload_n hX dL_holds_2 rfl 0 rfl ?_
  refine jw_iload_n hX dL_holds_3 rfl 1 rfl ?_
  refine jw_xF (As := [.int p0]) hX hGP 1 hC gL_holds_X6_holds rfl hdX6_holds ⟨by decide, by decide⟩ 6 rfl (by decide) hok rfl (Nat.le_of_ble_eq_true rfl) dL_holds_4 ⟨by decide, by decide⟩ ?_ ?_
  · rintro E ce q9 w' H1 locs1 ls ⟨z, w9, hq, rfl, rfl⟩ hAt hce
    rcases hqx z w9 hq with rfl
    · refine jw_catch hX (E := exN 2) [] ⟨0, 16, 19, 25⟩ [] htab (fun _ h => nomatch h) (by decide) (by decide) (by decide +kernel) (gp_nc hGP (w := .castable (exN 2) (exN 2)) (by decide +kernel)) hAt hce (fun q => ?_)
      refine jw_astore_n hX [(3, .ref q), (0, .ref x), (1, .int p0), (2, .ref o)] dL_holds_19 rfl (by decide) rfl ?_
      refine jw_iconst (v := (1 : Int32)) hX dL_holds_20 (by decide) ?_
      exact hret _ _ _ _ _ _ (by decide) (by decide) dL_holds_21 (Or.inr ⟨_, w9, hq, rfl, rfl⟩)
  · rintro ov w' ⟨r, w9, hq, rfl, rfl⟩
    show JW X _ _ _ _ _ [.int r, .int 0, .ref o]
    refine jw_if_eq (tgt := 14) hX dL_holds_7 (by decide) (fun hc => ?_) (fun hc => ?_)
    · have hv : v01 r = 0 := if_pos hc
      refine jw_lconst (v := 0) hX dL_holds_14 (by decide) ?_
      refine jw_olast hX hT dL_holds_15 ?_
      refine jw_goto (tgt := 22) hX dL_holds_16 (by decide) ?_
      refine jw_iconst (v := (0 : Int32)) hX dL_holds_22 (by decide) ?_
      exact hret _ _ _ _ _ _ (by decide) (by decide) dL_holds_23 (Or.inl ⟨r, w9, hq, rfl, by rw [hv]⟩)
    · have hv : v01 r = 1 := if_neg hc
      refine jw_lconst (v := 1) hX dL_holds_10 (by decide) ?_
      refine jw_goto (tgt := 15) hX dL_holds_11 (by decide) ?_
      refine jw_olast hX hT dL_holds_15 ?_
      refine jw_goto (tgt := 22) hX dL_holds_16 (by decide) ?_
      refine jw_iconst (v := (0 : Int32)) hX dL_holds_22 (by decide) ?_
      exact hret _ _ _ _ _ _ (by decide) (by decide) dL_holds_23 (Or.inl ⟨r, w9, hq, rfl, by rw [hv]⟩)
