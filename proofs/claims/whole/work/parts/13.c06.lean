/-! X6_needRuleKind -/
abbrev rmX6_needRuleKind : Room := { frames := 6, cells := 1, slots := 6, locals := 90 }
theorem hdX6_needRuleKind : yX6_needRuleKind.cls ≠ "java/lang/invoke/MethodHandle" ∧ yX6_needRuleKind.cls ≠ "java/lang/invoke/VarHandle" ∧ (parseMethodDescriptor yX6_needRuleKind.desc).map (fun d => d.parameters.length) = some 3 := by decide +kernel
theorem tkX6_needRuleKind_IA : Cond.classLink "Postlint" 41 "java/lang/IllegalArgumentException" ∈ wsX6_needRuleKind ∧ Cond.initialized "java/lang/IllegalArgumentException" ∈ wsX6_needRuleKind := by decide +kernel
theorem taX6_needRuleKind_IA : ∀ w ∈ (vx_atS "Postlint" 45 "java/lang/IllegalArgumentException" ["java/lang/RuntimeException", "java/lang/Exception"]).filter goodWord, w ∈ wsX6_needRuleKind := fun _ h => List.mem_cons_of_mem _ (List.mem_append_right _ h)
def fX6_needRuleKind (v0 : Int32) (v1 : Int32) (v2 : Int32) : Option (Nat ⊕ Unit) := (if v0 < 0 then some (Sum.inl 0) else (if v0 ≤ (3 : Int32) then (if v0 = (2 : Int32) then (if v1 = v2 then some (Sum.inl 0) else some (Sum.inr ())) else some (Sum.inr ())) else some (Sum.inl 0)))
set_option maxRecDepth 100000 in
set_option maxHeartbeats 4000000 in
theorem sX6_needRuleKind {X : JX} {cI cZ cO cJ : ClassId} {gs : JP} {wv : va_W} {post : Option Value → va_W → Prop} (hX : jOK X cX6_needRuleKind 3 wsX6_needRuleKind RX6 rmX6_needRuleKind) (hT : jT X = jTy cI cZ cO cJ) (hGX : jG X (GP gs)) (hret : jRV X cX6_needRuleKind rmX6_needRuleKind post) {w0 : va_W} {px : String → va_W → Prop} (hQ : jXQ X w0 rmX6_needRuleKind post px) {o : (Nat ⊕ Unit)} (hro : o = .inr () → post none wv) (hrx : ∀ x9 : Nat, o = .inl x9 → px (exN x9) wv) {v0 : Int32} {v1 : Int32} {v2 : Int32} (h : fX6_needRuleKind v0 v1 v2 = some o) : JW X 0 0 wv 0 [(0, .int v0), (1, .int v1), (2, .int v2)] [] := by
  unfold fX6_needRuleKind at h
  refine jw_iload_n hX dX6_needRuleKind_0 rfl 0 rfl ?_
  refine jw_if_lt (tgt := 9) hX dX6_needRuleKind_1 (by decide) (fun hc => ?_) (fun hc => ?_)
  · rw [if_pos hc] at h
    exact jw_throwS (is := 208) (text := "the kind is out of range") hX hGX hQ (by decide +kernel) (by decide +kernel) tkX6_needRuleKind_IA.1 tkX6_needRuleKind_IA.2 (by decide +kernel) taX6_needRuleKind_IA tbIA gNc_on tgIA dX6_needRuleKind_9 dX6_needRuleKind_12 dX6_needRuleKind_13 dX6_needRuleKind_15 dX6_needRuleKind_18 (Nat.le_of_ble_eq_true rfl) (Nat.le_of_ble_eq_true rfl) (Nat.le_of_ble_eq_true rfl) (Nat.le_of_ble_eq_true rfl) (hrx _ (Option.some.inj h).symm)
  · rw [if_neg hc] at h
    refine jw_iload_n hX dX6_needRuleKind_4 rfl 0 rfl ?_
    refine jw_iconst (v := (3 : Int32)) hX dX6_needRuleKind_5 (by decide) ?_
    refine jw_icmp_le (tgt := 19) hX dX6_needRuleKind_6 (by decide) (fun hc => ?_) (fun hc => ?_)
    · rw [if_pos hc] at h
      refine jw_iload_n hX dX6_needRuleKind_19 rfl 0 rfl ?_
      refine jw_iconst (v := (2 : Int32)) hX dX6_needRuleKind_20 (by decide) ?_
      refine jw_icmp_ne (tgt := 39) hX dX6_needRuleKind_21 (by decide) (fun hc => ?_) (fun hc => ?_)
      · rw [if_neg hc] at h
        exact hret _ _ _ _ _ (by decide) (by decide) dX6_needRuleKind_39 (hro (Option.some.inj h).symm)
      · rw [if_pos hc] at h
        refine jw_iload_n hX dX6_needRuleKind_24 rfl 1 rfl ?_
        refine jw_iload_n hX dX6_needRuleKind_25 rfl 2 rfl ?_
        refine jw_icmp_ne (tgt := 39) hX dX6_needRuleKind_26 (by decide) (fun hc => ?_) (fun hc => ?_)
        · rw [if_neg hc] at h
          exact hret _ _ _ _ _ (by decide) (by decide) dX6_needRuleKind_39 (hro (Option.some.inj h).symm)
        · rw [if_pos hc] at h
          exact jw_throwS (is := 210) (text := "both accounts are the same") hX hGX hQ (by decide +kernel) (by decide +kernel) tkX6_needRuleKind_IA.1 tkX6_needRuleKind_IA.2 (by decide +kernel) taX6_needRuleKind_IA tbIA gNc_on tgIA dX6_needRuleKind_29 dX6_needRuleKind_32 dX6_needRuleKind_33 dX6_needRuleKind_35 dX6_needRuleKind_38 (Nat.le_of_ble_eq_true rfl) (Nat.le_of_ble_eq_true rfl) (Nat.le_of_ble_eq_true rfl) (Nat.le_of_ble_eq_true rfl) (hrx _ (Option.some.inj h).symm)
    · rw [if_neg hc] at h
      exact jw_throwS (is := 208) (text := "the kind is out of range") hX hGX hQ (by decide +kernel) (by decide +kernel) tkX6_needRuleKind_IA.1 tkX6_needRuleKind_IA.2 (by decide +kernel) taX6_needRuleKind_IA tbIA gNc_on tgIA dX6_needRuleKind_9 dX6_needRuleKind_12 dX6_needRuleKind_13 dX6_needRuleKind_15 dX6_needRuleKind_18 (Nat.le_of_ble_eq_true rfl) (Nat.le_of_ble_eq_true rfl) (Nat.le_of_ble_eq_true rfl) (Nat.le_of_ble_eq_true rfl) (hrx _ (Option.some.inj h).symm)
set_option maxRecDepth 100000 in
set_option maxHeartbeats 4000000 in
theorem kX6_needRuleKind {l : Launch} {D : va_G} {tys : List (ClassId × FieldType)} {cI cZ cO cJ : ClassId} {gs : JP} {wv : va_W} {v0 : Int32} {v1 : Int32} {v2 : Int32} (hl : l.stackTraces = false) (hT : tys = jTy cI cZ cO cJ) (h : fX6_needRuleKind v0 v1 v2 = some (.inr ())) : CX l (GP gs) D tys yX6_needRuleKind wsX6_needRuleKind rmX6_needRuleKind [.int v0, .int v1, .int v2] wv (fun ov w2 => ov = none ∧ w2 = wv) (fun _ _ => False) := by
  refine CX_of (cc := cX6_needRuleKind) (maxL := 3) (ret := none) hl (by decide) rfl (Nat.le_of_ble_eq_true rfl) ?_
  intro X hD hL hT0 hGX hX hQ rI rZ rV rA
  exact sX6_needRuleKind (post := fun ov w2 => ov = none ∧ w2 = wv) (px := fun _ _ => False) hX (hT0.trans hT) hGX (rV rfl) hQ (o := .inr ()) (fun e9 => by cases e9; exact ⟨rfl, rfl⟩) (fun x9 e9 => nomatch e9) h
set_option maxRecDepth 100000 in
set_option maxHeartbeats 4000000 in
theorem kxX6_needRuleKind {l : Launch} {D : va_G} {tys : List (ClassId × FieldType)} {cI cZ cO cJ : ClassId} {gs : JP} {wv : va_W} {v0 : Int32} {v1 : Int32} {v2 : Int32} {x9 : Nat} (hl : l.stackTraces = false) (hT : tys = jTy cI cZ cO cJ) (h : fX6_needRuleKind v0 v1 v2 = some (.inl x9)) : CX l (GP gs) D tys yX6_needRuleKind wsX6_needRuleKind rmX6_needRuleKind [.int v0, .int v1, .int v2] wv (fun _ _ => False) (fun E w2 => E = exN x9 ∧ w2 = wv) := by
  refine CX_of (cc := cX6_needRuleKind) (maxL := 3) (ret := none) hl (by decide) rfl (Nat.le_of_ble_eq_true rfl) ?_
  intro X hD hL hT0 hGX hX hQ rI rZ rV rA
  exact sX6_needRuleKind (post := fun _ _ => False) (px := fun E w2 => E = exN x9 ∧ w2 = wv) hX (hT0.trans hT) hGX (rV rfl) hQ (o := .inl x9) (fun e9 => nomatch e9) (fun x9 e9 => by cases e9; exact ⟨rfl, rfl⟩) h
/-! X6_needRuleNumber -/
abbrev rmX6_needRuleNumber : Room := { frames := 6, cells := 1, slots := 6, locals := 90 }
theorem hdX6_needRuleNumber : yX6_needRuleNumber.cls ≠ "java/lang/invoke/MethodHandle" ∧ yX6_needRuleNumber.cls ≠ "java/lang/invoke/VarHandle" ∧ (parseMethodDescriptor yX6_needRuleNumber.desc).map (fun d => d.parameters.length) = some 2 := by decide +kernel
theorem tkX6_needRuleNumber_IA : Cond.classLink "Postlint" 41 "java/lang/IllegalArgumentException" ∈ wsX6_needRuleNumber ∧ Cond.initialized "java/lang/IllegalArgumentException" ∈ wsX6_needRuleNumber := by decide +kernel
theorem taX6_needRuleNumber_IA : ∀ w ∈ (vx_atS "Postlint" 45 "java/lang/IllegalArgumentException" ["java/lang/RuntimeException", "java/lang/Exception"]).filter goodWord, w ∈ wsX6_needRuleNumber := fun _ h => List.mem_cons_of_mem _ (List.mem_append_right _ h)
def fX6_needRuleNumber_J12 (v1 : Int32) (t0 : Int32) : Option (Nat ⊕ Unit) := (if v1 < t0 then some (Sum.inl 0) else (if v1 ≤ (999 : Int32) then some (Sum.inr ()) else some (Sum.inl 0)))
def fX6_needRuleNumber (v0 : Int32) (v1 : Int32) : Option (Nat ⊕ Unit) := (if v0 = (1 : Int32) then fX6_needRuleNumber_J12 v1 (0 : Int32) else fX6_needRuleNumber_J12 v1 (-999 : Int32))
set_option maxRecDepth 100000 in
set_option maxHeartbeats 4000000 in
theorem sX6_needRuleNumber_J12 {X : JX} {cI cZ cO cJ : ClassId} {gs : JP} {wv : va_W} {post : Option Value → va_W → Prop} (hX : jOK X cX6_needRuleNumber 3 wsX6_needRuleNumber RX6 rmX6_needRuleNumber) (hT : jT X = jTy cI cZ cO cJ) (hGX : jG X (GP gs)) (hret : jRV X cX6_needRuleNumber rmX6_needRuleNumber post) {w0 : va_W} {px : String → va_W → Prop} (hQ : jXQ X w0 rmX6_needRuleNumber post px) {o : (Nat ⊕ Unit)} {v1 : Int32} {t0 : Int32}   (hro : o = .inr () → post none wv) (hrx : ∀ x9 : Nat, o = .inl x9 → px (exN x9) wv) (h : fX6_needRuleNumber_J12 v1 t0 = some o) : JW X 0 0 wv 12 [(1, .int v1)] [.int t0] := by
  unfold fX6_needRuleNumber_J12 at h
  refine jw_istore_n hX [(2, .int t0), (1, .int v1)] dX6_needRuleNumber_12 rfl (by decide) rfl ?_
  refine jw_iload_n hX dX6_needRuleNumber_13 rfl 1 rfl ?_
  refine jw_iload_n hX dX6_needRuleNumber_14 rfl 0 rfl ?_
  refine jw_icmp_lt (tgt := 25) hX dX6_needRuleNumber_15 (by decide) (fun hc => ?_) (fun hc => ?_)
  · rw [if_pos hc] at h
    exact jw_throwS (is := 212) (text := "the number is out of range") hX hGX hQ (by decide +kernel) (by decide +kernel) tkX6_needRuleNumber_IA.1 tkX6_needRuleNumber_IA.2 (by decide +kernel) taX6_needRuleNumber_IA tbIA gNc_on tgIA dX6_needRuleNumber_25 dX6_needRuleNumber_28 dX6_needRuleNumber_29 dX6_needRuleNumber_31 dX6_needRuleNumber_34 (Nat.le_of_ble_eq_true rfl) (Nat.le_of_ble_eq_true rfl) (Nat.le_of_ble_eq_true rfl) (Nat.le_of_ble_eq_true rfl) (hrx _ (Option.some.inj h).symm)
  · rw [if_neg hc] at h
    refine jw_iload_n hX dX6_needRuleNumber_18 rfl 1 rfl ?_
    refine jw_sipush (v := (999 : Int32)) hX dX6_needRuleNumber_19 (by decide) ?_
    refine jw_icmp_le (tgt := 35) hX dX6_needRuleNumber_22 (by decide) (fun hc => ?_) (fun hc => ?_)
    · rw [if_pos hc] at h
      exact hret _ _ _ _ _ (by decide) (by decide) dX6_needRuleNumber_35 (hro (Option.some.inj h).symm)
    · rw [if_neg hc] at h
      exact jw_throwS (is := 212) (text := "the number is out of range") hX hGX hQ (by decide +kernel) (by decide +kernel) tkX6_needRuleNumber_IA.1 tkX6_needRuleNumber_IA.2 (by decide +kernel) taX6_needRuleNumber_IA tbIA gNc_on tgIA dX6_needRuleNumber_25 dX6_needRuleNumber_28 dX6_needRuleNumber_29 dX6_needRuleNumber_31 dX6_needRuleNumber_34 (Nat.le_of_ble_eq_true rfl) (Nat.le_of_ble_eq_true rfl) (Nat.le_of_ble_eq_true rfl) (Nat.le_of_ble_eq_true rfl) (hrx _ (Option.some.inj h).symm)
set_option maxRecDepth 100000 in
set_option maxHeartbeats 4000000 in
theorem sX6_needRuleNumber {X : JX} {cI cZ cO cJ : ClassId} {gs : JP} {wv : va_W} {post : Option Value → va_W → Prop} (hX : jOK X cX6_needRuleNumber 3 wsX6_needRuleNumber RX6 rmX6_needRuleNumber) (hT : jT X = jTy cI cZ cO cJ) (hGX : jG X (GP gs)) (hret : jRV X cX6_needRuleNumber rmX6_needRuleNumber post) {w0 : va_W} {px : String → va_W → Prop} (hQ : jXQ X w0 rmX6_needRuleNumber post px) {o : (Nat ⊕ Unit)} (hro : o = .inr () → post none wv) (hrx : ∀ x9 : Nat, o = .inl x9 → px (exN x9) wv) {v0 : Int32} {v1 : Int32} (h : fX6_needRuleNumber v0 v1 = some o) : JW X 0 0 wv 0 [(0, .int v0), (1, .int v1)] [] := by
  unfold fX6_needRuleNumber at h
  refine jw_iload_n hX dX6_needRuleNumber_0 rfl 0 rfl ?_
  refine jw_iconst (v := (1 : Int32)) hX dX6_needRuleNumber_1 (by decide) ?_
  refine jw_icmp_ne (tgt := 9) hX dX6_needRuleNumber_2 (by decide) (fun hc => ?_) (fun hc => ?_)
  · rw [if_neg hc] at h
    refine jw_sipush (v := (-999 : Int32)) hX dX6_needRuleNumber_9 (by decide) ?_
    refine jw_sub [1] [(1, .int v1)] rfl ?_
    exact sX6_needRuleNumber_J12 hX hT hGX hret hQ hro hrx h
  · rw [if_pos hc] at h
    refine jw_iconst (v := (0 : Int32)) hX dX6_needRuleNumber_5 (by decide) ?_
    refine jw_goto (tgt := 12) hX dX6_needRuleNumber_6 (by decide) ?_
    refine jw_sub [1] [(1, .int v1)] rfl ?_
    exact sX6_needRuleNumber_J12 hX hT hGX hret hQ hro hrx h
set_option maxRecDepth 100000 in
set_option maxHeartbeats 4000000 in
theorem kX6_needRuleNumber {l : Launch} {D : va_G} {tys : List (ClassId × FieldType)} {cI cZ cO cJ : ClassId} {gs : JP} {wv : va_W} {v0 : Int32} {v1 : Int32} (hl : l.stackTraces = false) (hT : tys = jTy cI cZ cO cJ) (h : fX6_needRuleNumber v0 v1 = some (.inr ())) : CX l (GP gs) D tys yX6_needRuleNumber wsX6_needRuleNumber rmX6_needRuleNumber [.int v0, .int v1] wv (fun ov w2 => ov = none ∧ w2 = wv) (fun _ _ => False) := by
  refine CX_of (cc := cX6_needRuleNumber) (maxL := 3) (ret := none) hl (by decide) rfl (Nat.le_of_ble_eq_true rfl) ?_
  intro X hD hL hT0 hGX hX hQ rI rZ rV rA
  exact sX6_needRuleNumber (post := fun ov w2 => ov = none ∧ w2 = wv) (px := fun _ _ => False) hX (hT0.trans hT) hGX (rV rfl) hQ (o := .inr ()) (fun e9 => by cases e9; exact ⟨rfl, rfl⟩) (fun x9 e9 => nomatch e9) h
set_option maxRecDepth 100000 in
set_option maxHeartbeats 4000000 in
theorem kxX6_needRuleNumber {l : Launch} {D : va_G} {tys : List (ClassId × FieldType)} {cI cZ cO cJ : ClassId} {gs : JP} {wv : va_W} {v0 : Int32} {v1 : Int32} {x9 : Nat} (hl : l.stackTraces = false) (hT : tys = jTy cI cZ cO cJ) (h : fX6_needRuleNumber v0 v1 = some (.inl x9)) : CX l (GP gs) D tys yX6_needRuleNumber wsX6_needRuleNumber rmX6_needRuleNumber [.int v0, .int v1] wv (fun _ _ => False) (fun E w2 => E = exN x9 ∧ w2 = wv) := by
  refine CX_of (cc := cX6_needRuleNumber) (maxL := 3) (ret := none) hl (by decide) rfl (Nat.le_of_ble_eq_true rfl) ?_
  intro X hD hL hT0 hGX hX hQ rI rZ rV rA
  exact sX6_needRuleNumber (post := fun _ _ => False) (px := fun E w2 => E = exN x9 ∧ w2 = wv) hX (hT0.trans hT) hGX (rV rfl) hQ (o := .inl x9) (fun e9 => nomatch e9) (fun x9 e9 => by cases e9; exact ⟨rfl, rfl⟩) h
