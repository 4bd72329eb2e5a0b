/-! one step of the law a case: both sides answer alike, and go on alike -/
theorem scr_in {i L : Nat} (k : Nat) (hi : i + k < L) (hL : L ≤ 2560) : vp_in (nI i + nI k) L := by
  have : nI i + nI k = nI (i + k) := (Int32.ofNat_add i k).symm
  rw [this]
  exact inB_in (inB_nI hi (by omega))
theorem ls_type {X : JX} {cells slots : Nat} {cI cZ cO cJ : ClassId} {gs : JP} {S : PS} {w : MW} {i b x a o L : Nat} {ad : Nat → Nat} {xs : Nat → Int32} {f : Nat → Int64} (hX : jOK X cL_law 7 wsL_law RL room_1) (hT : jT X = jTy cI cZ cO cJ) (hl : (jL X).stackTraces = false) (hGX : jG X (GL gs)) (hB : jScr X b L xs) (hi : i + 5 ≤ L) (hL : L ≤ 2560) (hR : REL gs.2.1 x S w) (hc : cells + 10 ≤ 601024) (hs : slots + 1000 ≤ 7293034)
    (kk : ∀ (f1 : Nat → Int64) (S1 : PS) (w1 : MW), REL gs.2.1 x S1 w1 → JW X (cells + 10) (slots + 1000) (mW a ad cI cZ w1 ++ (o, oE cJ f1) :: pW cI cO S1) 1307 (lwL i b x a o) []) : JW X cells slots (mW a ad cI cZ w ++ (o, oE cJ f) :: pW cI cO S) 136 (lwL i b x a o) [] := by
  obtain ⟨A, hRC, hW, hM⟩ := hR
  obtain ⟨own, g, ea, ra, aa, sp, hC⟩ := hRC
  have hq : CQ (jL X) gs (jD X) (jT X) yX6_type wsX6_type rmX6_type [.ref x, .int (xs (nI i + 1).toNatClampNeg)] cI cO S x (q_type A (xs (nI i + 1).toNatClampNeg)) := by
    rcases co_type hC hW (xs (nI i + 1).toNatClampNeg) with ⟨z, T, h1, h2, h3⟩ | ⟨r, T, h1, h2, h3⟩
    · exact CQ_inl (kxX6_type hl hT h2) h1 h3
    · exact CQ_inr (kX6_type hl hT h2) h1 h3
  exact lq_type (REL := REL gs.2.1 x) hX hT hGX hB rfl (scr_in 1 (by omega) hL) hC.x hc hs hq (fun z _ h => zx_type h.1) (fun r w9 h => st1 (mo_type hM hW (xs (nI i + 1).toNatClampNeg)) (wf_type hW (xs (nI i + 1).toNatClampNeg)) h) (fun z w9 h => st2 (mo_type hM hW (xs (nI i + 1).toNatClampNeg)) (wf_type hW (xs (nI i + 1).toNatClampNeg)) h) kk
theorem ls_clear {X : JX} {cells slots : Nat} {cI cZ cO cJ : ClassId} {gs : JP} {S : PS} {w : MW} {i b x a o L : Nat} {ad : Nat → Nat} {xs : Nat → Int32} {f : Nat → Int64} (hX : jOK X cL_law 7 wsL_law RL room_1) (hT : jT X = jTy cI cZ cO cJ) (hl : (jL X).stackTraces = false) (hGX : jG X (GL gs)) (hB : jScr X b L xs) (hi : i + 5 ≤ L) (hL : L ≤ 2560) (hR : REL gs.2.1 x S w) (hc : cells + 10 ≤ 601024) (hs : slots + 1000 ≤ 7293034)
    (kk : ∀ (f1 : Nat → Int64) (S1 : PS) (w1 : MW), REL gs.2.1 x S1 w1 → JW X (cells + 10) (slots + 1000) (mW a ad cI cZ w1 ++ (o, oE cJ f1) :: pW cI cO S1) 1307 (lwL i b x a o) []) : JW X cells slots (mW a ad cI cZ w ++ (o, oE cJ f) :: pW cI cO S) 192 (lwL i b x a o) [] := by
  obtain ⟨A, hRC, hW, hM⟩ := hR
  obtain ⟨own, g, ea, ra, aa, sp, hC⟩ := hRC
  obtain ⟨T, h1, h2⟩ := co_clear hC
  obtain ⟨r, w1, m1, m2, m3, m4⟩ := mo_clear hM
  subst m3
  exact lq_clear hX hT hGX hB hC.x hc hs (kX6_clear hT h1) m1 (kk f T w1 ⟨_, h2, wf_clear hW, m2⟩)
theorem ls_fault {X : JX} {cells slots : Nat} {cI cZ cO cJ : ClassId} {gs : JP} {S : PS} {w : MW} {i b x a o L : Nat} {ad : Nat → Nat} {xs : Nat → Int32} {f : Nat → Int64} (hX : jOK X cL_law 7 wsL_law RL room_1) (hT : jT X = jTy cI cZ cO cJ) (hl : (jL X).stackTraces = false) (hGX : jG X (GL gs)) (hB : jScr X b L xs) (hi : i + 5 ≤ L) (hL : L ≤ 2560) (hR : REL gs.2.1 x S w) (hc : cells + 10 ≤ 601024) (hs : slots + 1000 ≤ 7293034)
    (kk : ∀ (f1 : Nat → Int64) (S1 : PS) (w1 : MW), REL gs.2.1 x S1 w1 → JW X (cells + 10) (slots + 1000) (mW a ad cI cZ w1 ++ (o, oE cJ f1) :: pW cI cO S1) 1307 (lwL i b x a o) []) : JW X cells slots (mW a ad cI cZ w ++ (o, oE cJ f) :: pW cI cO S) 205 (lwL i b x a o) [] := by
  obtain ⟨A, hRC, hW, hM⟩ := hR
  obtain ⟨own, g, ea, ra, aa, sp, hC⟩ := hRC
  obtain ⟨T, h1, h2⟩ := co_fault (n := 2001) hC hW (by decide)
  obtain ⟨r, w1, m1, m2, m3, m4⟩ := mo_fault (n := 2001) hM (by decide)
  subst m3
  exact lq_fault (n7 := 2001) hX hT hGX hB hC.x hc hs (kX6_fault hT h1) m1 (kk f T w1 ⟨_, h2, hW, m2⟩)
theorem ls_post {X : JX} {cells slots : Nat} {cI cZ cO cJ : ClassId} {gs : JP} {S : PS} {w : MW} {i b x a o L : Nat} {ad : Nat → Nat} {xs : Nat → Int32} {f : Nat → Int64} (hX : jOK X cL_law 7 wsL_law RL room_1) (hT : jT X = jTy cI cZ cO cJ) (hl : (jL X).stackTraces = false) (hGX : jG X (GL gs)) (hB : jScr X b L xs) (hi : i + 5 ≤ L) (hL : L ≤ 2560) (hR : REL gs.2.1 x S w) (hc : cells + 10 ≤ 601024) (hs : slots + 1000 ≤ 7293034)
    (kk : ∀ (f1 : Nat → Int64) (S1 : PS) (w1 : MW), REL gs.2.1 x S1 w1 → JW X (cells + 10) (slots + 1000) (mW a ad cI cZ w1 ++ (o, oE cJ f1) :: pW cI cO S1) 1307 (lwL i b x a o) []) : JW X cells slots (mW a ad cI cZ w ++ (o, oE cJ f) :: pW cI cO S) 218 (lwL i b x a o) [] := by
  obtain ⟨A, hRC, hW, hM⟩ := hR
  obtain ⟨own, g, ea, ra, aa, sp, hC⟩ := hRC
  have hq : CQ (jL X) gs (jD X) (jT X) yX6_post wsX6_post rmX6_post [.ref x] cI cO S x (q_post A) := by
    exact kX6_post hl hT (cw_post hC hW (n := 2001) (by decide))
  exact lq_post (n7 := 2001) (REL := REL gs.2.1 x) hX hT hGX hB hC.x hc hs hq (fun z _ h => zx_post h.1) (fun r w9 h => st1 (mo_post (n := 2001) hM hW (by decide)) (wf_post hM hW) h) (fun z w9 h => st2 (mo_post (n := 2001) hM hW (by decide)) (wf_post hM hW) h) kk
theorem ls_write {X : JX} {cells slots : Nat} {cI cZ cO cJ : ClassId} {gs : JP} {S : PS} {w : MW} {i b x a o L : Nat} {ad : Nat → Nat} {xs : Nat → Int32} {f : Nat → Int64} (hX : jOK X cL_law 7 wsL_law RL room_1) (hT : jT X = jTy cI cZ cO cJ) (hl : (jL X).stackTraces = false) (hGX : jG X (GL gs)) (hB : jScr X b L xs) (hi : i + 5 ≤ L) (hL : L ≤ 2560) (hR : REL gs.2.1 x S w) (hc : cells + 10 ≤ 601024) (hs : slots + 1000 ≤ 7293034)
    (kk : ∀ (f1 : Nat → Int64) (S1 : PS) (w1 : MW), REL gs.2.1 x S1 w1 → JW X (cells + 10) (slots + 1000) (mW a ad cI cZ w1 ++ (o, oE cJ f1) :: pW cI cO S1) 1307 (lwL i b x a o) []) : JW X cells slots (mW a ad cI cZ w ++ (o, oE cJ f) :: pW cI cO S) 262 (lwL i b x a o) [] := by
  obtain ⟨A, hRC, hW, hM⟩ := hR
  obtain ⟨own, g, ea, ra, aa, sp, hC⟩ := hRC
  have hq : CQ (jL X) gs (jD X) (jT X) yX6_write wsX6_write rmX6_write [.ref x, .int (xs (nI i + 1).toNatClampNeg)] cI cO S x (q_write A (xs (nI i + 1).toNatClampNeg)) := by
    exact kX6_write hl hT (cw_write hC hW (xs (nI i + 1).toNatClampNeg) (n := 2001) (by decide))
  exact lq_write (n7 := 2001) (REL := REL gs.2.1 x) hX hT hGX hB rfl (scr_in 1 (by omega) hL) hC.x hc hs hq (fun z _ h => zx_write h.1) (fun r w9 h => st1 (mo_write (n := 2001) hM hW (xs (nI i + 1).toNatClampNeg) (by decide)) (wf_write hM hW (xs (nI i + 1).toNatClampNeg)) h) (fun z w9 h => st2 (mo_write (n := 2001) hM hW (xs (nI i + 1).toNatClampNeg) (by decide)) (wf_write hM hW (xs (nI i + 1).toNatClampNeg)) h) kk
theorem ls_strike {X : JX} {cells slots : Nat} {cI cZ cO cJ : ClassId} {gs : JP} {S : PS} {w : MW} {i b x a o L : Nat} {ad : Nat → Nat} {xs : Nat → Int32} {f : Nat → Int64} (hX : jOK X cL_law 7 wsL_law RL room_1) (hT : jT X = jTy cI cZ cO cJ) (hl : (jL X).stackTraces = false) (hGX : jG X (GL gs)) (hB : jScr X b L xs) (hi : i + 5 ≤ L) (hL : L ≤ 2560) (hR : REL gs.2.1 x S w) (hc : cells + 10 ≤ 601024) (hs : slots + 1000 ≤ 7293034)
    (kk : ∀ (f1 : Nat → Int64) (S1 : PS) (w1 : MW), REL gs.2.1 x S1 w1 → JW X (cells + 10) (slots + 1000) (mW a ad cI cZ w1 ++ (o, oE cJ f1) :: pW cI cO S1) 1307 (lwL i b x a o) []) : JW X cells slots (mW a ad cI cZ w ++ (o, oE cJ f) :: pW cI cO S) 325 (lwL i b x a o) [] := by
  obtain ⟨A, hRC, hW, hM⟩ := hR
  obtain ⟨own, g, ea, ra, aa, sp, hC⟩ := hRC
  have hq : CQ (jL X) gs (jD X) (jT X) yX6_strike wsX6_strike rmX6_strike [.ref x, .int (xs (nI i + 1).toNatClampNeg)] cI cO S x (q_strike A (xs (nI i + 1).toNatClampNeg)) := by
    rcases co_strike hC hW (xs (nI i + 1).toNatClampNeg) (n := 2001) (by decide) with ⟨z, T, h1, h2, h3⟩ | ⟨r, T, h1, h2, h3⟩
    · exact CQ_inl (kxX6_strike hl hT h2) h1 h3
    · exact CQ_inr (kX6_strike hl hT h2) h1 h3
  exact lq_strike (n7 := 2001) (REL := REL gs.2.1 x) hX hT hGX hB rfl (scr_in 1 (by omega) hL) hC.x hc hs hq (fun z _ h => zx_strike h.1) (fun r w9 h => st1 (mo_strike (n := 2001) hM hW (xs (nI i + 1).toNatClampNeg) (by decide)) (wf_strike hW (xs (nI i + 1).toNatClampNeg)) h) (fun z w9 h => st2 (mo_strike (n := 2001) hM hW (xs (nI i + 1).toNatClampNeg) (by decide)) (wf_strike hW (xs (nI i + 1).toNatClampNeg)) h) kk
theorem ls_rule {X : JX} {cells slots : Nat} {cI cZ cO cJ : ClassId} {gs : JP} {S : PS} {w : MW} {i b x a o L : Nat} {ad : Nat → Nat} {xs : Nat → Int32} {f : Nat → Int64} (hX : jOK X cL_law 7 wsL_law RL room_1) (hT : jT X = jTy cI cZ cO cJ) (hl : (jL X).stackTraces = false) (hGX : jG X (GL gs)) (hB : jScr X b L xs) (hi : i + 5 ≤ L) (hL : L ≤ 2560) (hR : REL gs.2.1 x S w) (hc : cells + 10 ≤ 601024) (hs : slots + 1000 ≤ 7293034)
    (kk : ∀ (f1 : Nat → Int64) (S1 : PS) (w1 : MW), REL gs.2.1 x S1 w1 → JW X (cells + 10) (slots + 1000) (mW a ad cI cZ w1 ++ (o, oE cJ f1) :: pW cI cO S1) 1307 (lwL i b x a o) []) : JW X cells slots (mW a ad cI cZ w ++ (o, oE cJ f) :: pW cI cO S) 381 (lwL i b x a o) [] := by
  obtain ⟨A, hRC, hW, hM⟩ := hR
  obtain ⟨own, g, ea, ra, aa, sp, hC⟩ := hRC
  have hq : CQ (jL X) gs (jD X) (jT X) yX6_rule wsX6_rule rmX6_rule [.ref x, .int (xs (nI i + 1).toNatClampNeg), .int (xs (nI i + 2).toNatClampNeg), .int (xs (nI i + 3).toNatClampNeg), .int (xs (nI i + 4).toNatClampNeg)] cI cO S x (q_rule A (xs (nI i + 1).toNatClampNeg) (xs (nI i + 2).toNatClampNeg) (xs (nI i + 3).toNatClampNeg) (xs (nI i + 4).toNatClampNeg)) := by
    exact kX6_rule hl hT (cw_rule hC hW (xs (nI i + 1).toNatClampNeg) (xs (nI i + 2).toNatClampNeg) (xs (nI i + 3).toNatClampNeg) (xs (nI i + 4).toNatClampNeg))
  exact lq_rule (REL := REL gs.2.1 x) hX hT hGX hB rfl (scr_in 1 (by omega) hL) rfl (scr_in 2 (by omega) hL) rfl (scr_in 3 (by omega) hL) rfl (scr_in 4 (by omega) hL) hC.x hc hs hq (fun z _ h => zx_rule h.1) (fun r w9 h => st1 (mo_rule hM hW (xs (nI i + 1).toNatClampNeg) (xs (nI i + 2).toNatClampNeg) (xs (nI i + 3).toNatClampNeg) (xs (nI i + 4).toNatClampNeg)) (wf_rule hW (xs (nI i + 1).toNatClampNeg) (xs (nI i + 2).toNatClampNeg) (xs (nI i + 3).toNatClampNeg) (xs (nI i + 4).toNatClampNeg)) h) (fun z w9 h => st2 (mo_rule hM hW (xs (nI i + 1).toNatClampNeg) (xs (nI i + 2).toNatClampNeg) (xs (nI i + 3).toNatClampNeg) (xs (nI i + 4).toNatClampNeg)) (wf_rule hW (xs (nI i + 1).toNatClampNeg) (xs (nI i + 2).toNatClampNeg) (xs (nI i + 3).toNatClampNeg) (xs (nI i + 4).toNatClampNeg)) h) kk
theorem ls_takeBack {X : JX} {cells slots : Nat} {cI cZ cO cJ : ClassId} {gs : JP} {S : PS} {w : MW} {i b x a o L : Nat} {ad : Nat → Nat} {xs : Nat → Int32} {f : Nat → Int64} (hX : jOK X cL_law 7 wsL_law RL room_1) (hT : jT X = jTy cI cZ cO cJ) (hl : (jL X).stackTraces = false) (hGX : jG X (GL gs)) (hB : jScr X b L xs) (hi : i + 5 ≤ L) (hL : L ≤ 2560) (hR : REL gs.2.1 x S w) (hc : cells + 10 ≤ 601024) (hs : slots + 1000 ≤ 7293034)
    (kk : ∀ (f1 : Nat → Int64) (S1 : PS) (w1 : MW), REL gs.2.1 x S1 w1 → JW X (cells + 10) (slots + 1000) (mW a ad cI cZ w1 ++ (o, oE cJ f1) :: pW cI cO S1) 1307 (lwL i b x a o) []) : JW X cells slots (mW a ad cI cZ w ++ (o, oE cJ f) :: pW cI cO S) 473 (lwL i b x a o) [] := by
  obtain ⟨A, hRC, hW, hM⟩ := hR
  obtain ⟨own, g, ea, ra, aa, sp, hC⟩ := hRC
  have hq : CQ (jL X) gs (jD X) (jT X) yX6_takeBack wsX6_takeBack rmX6_takeBack [.ref x, .int (xs (nI i + 1).toNatClampNeg)] cI cO S x (q_takeBack A (xs (nI i + 1).toNatClampNeg)) := by
    rcases co_takeBack hC hW (xs (nI i + 1).toNatClampNeg) (n := 2001) (by decide) with ⟨z, T, h1, h2, h3⟩ | ⟨r, T, h1, h2, h3⟩
    · exact CQ_inl (kxX6_takeBack hl hT h2) h1 h3
    · exact CQ_inr (kX6_takeBack hl hT h2) h1 h3
  exact lq_takeBack (n7 := 2001) (REL := REL gs.2.1 x) hX hT hGX hB rfl (scr_in 1 (by omega) hL) hC.x hc hs hq (fun z _ h => zx_takeBack h.1) (fun r w9 h => st1 (mo_takeBack (n := 2001) hM hW (xs (nI i + 1).toNatClampNeg) (by decide)) (wf_takeBack hW (xs (nI i + 1).toNatClampNeg)) h) (fun z w9 h => st2 (mo_takeBack (n := 2001) hM hW (xs (nI i + 1).toNatClampNeg) (by decide)) (wf_takeBack hW (xs (nI i + 1).toNatClampNeg)) h) kk
theorem ls_audit {X : JX} {cells slots : Nat} {cI cZ cO cJ : ClassId} {gs : JP} {S : PS} {w : MW} {i b x a o L : Nat} {ad : Nat → Nat} {xs : Nat → Int32} {f : Nat → Int64} (hX : jOK X cL_law 7 wsL_law RL room_1) (hT : jT X = jTy cI cZ cO cJ) (hl : (jL X).stackTraces = false) (hGX : jG X (GL gs)) (hB : jScr X b L xs) (hi : i + 5 ≤ L) (hL : L ≤ 2560) (hR : REL gs.2.1 x S w) (hc : cells + 10 ≤ 601024) (hs : slots + 1000 ≤ 7293034)
    (kk : ∀ (f1 : Nat → Int64) (S1 : PS) (w1 : MW), REL gs.2.1 x S1 w1 → JW X (cells + 10) (slots + 1000) (mW a ad cI cZ w1 ++ (o, oE cJ f1) :: pW cI cO S1) 1307 (lwL i b x a o) []) : JW X cells slots (mW a ad cI cZ w ++ (o, oE cJ f) :: pW cI cO S) 529 (lwL i b x a o) [] := by
  obtain ⟨A, hRC, hW, hM⟩ := hR
  obtain ⟨own, g, ea, ra, aa, sp, hC⟩ := hRC
  have hq : CQ (jL X) gs (jD X) (jT X) yX6_audit wsX6_audit rmX6_audit [.ref x, .int (xs (nI i + 1).toNatClampNeg), .int (xs (nI i + 2).toNatClampNeg)] cI cO S x (q_audit A (xs (nI i + 1).toNatClampNeg) (xs (nI i + 2).toNatClampNeg)) := by
    exact kX6_audit hl hT (cw_audit hC hW (xs (nI i + 1).toNatClampNeg) (xs (nI i + 2).toNatClampNeg) (n := 2001) (by decide))
  exact lq_audit (REL := REL gs.2.1 x) hX hT hGX hB rfl (scr_in 1 (by omega) hL) rfl (scr_in 2 (by omega) hL) hC.x hc hs hq (fun z _ h => zx_audit h.1) (fun r w9 h => st1 (mo_audit hM hW (xs (nI i + 1).toNatClampNeg) (xs (nI i + 2).toNatClampNeg)) (wf_audit hW (xs (nI i + 1).toNatClampNeg) (xs (nI i + 2).toNatClampNeg)) h) (fun z w9 h => st2 (mo_audit hM hW (xs (nI i + 1).toNatClampNeg) (xs (nI i + 2).toNatClampNeg)) (wf_audit hW (xs (nI i + 1).toNatClampNeg) (xs (nI i + 2).toNatClampNeg)) h) kk
theorem ls_end {X : JX} {cells slots : Nat} {cI cZ cO cJ : ClassId} {gs : JP} {S : PS} {w : MW} {i b x a o L : Nat} {ad : Nat → Nat} {xs : Nat → Int32} {f : Nat → Int64} (hX : jOK X cL_law 7 wsL_law RL room_1) (hT : jT X = jTy cI cZ cO cJ) (hl : (jL X).stackTraces = false) (hGX : jG X (GL gs)) (hB : jScr X b L xs) (hi : i + 5 ≤ L) (hL : L ≤ 2560) (hR : REL gs.2.1 x S w) (hc : cells + 10 ≤ 601024) (hs : slots + 1000 ≤ 7293034)
    (kk : ∀ (f1 : Nat → Int64) (S1 : PS) (w1 : MW), REL gs.2.1 x S1 w1 → JW X (cells + 10) (slots + 1000) (mW a ad cI cZ w1 ++ (o, oE cJ f1) :: pW cI cO S1) 1307 (lwL i b x a o) []) : JW X cells slots (mW a ad cI cZ w ++ (o, oE cJ f) :: pW cI cO S) 597 (lwL i b x a o) [] := by
  obtain ⟨A, hRC, hW, hM⟩ := hR
  obtain ⟨own, g, ea, ra, aa, sp, hC⟩ := hRC
  have hq : CQ (jL X) gs (jD X) (jT X) yX6_end wsX6_end rmX6_end [.ref x, .int (xs (nI i + 1).toNatClampNeg)] cI cO S x (q_end A (xs (nI i + 1).toNatClampNeg)) := by
    rcases co_end hC hW (xs (nI i + 1).toNatClampNeg) (n := 2001) (by decide) with ⟨z, T, h1, h2, h3⟩ | ⟨r, T, h1, h2, h3⟩
    · exact CQ_inl (kxX6_end hl hT h2) h1 h3
    · exact CQ_inr (kX6_end hl hT h2) h1 h3
  exact lq_end (REL := REL gs.2.1 x) hX hT hGX hB rfl (scr_in 1 (by omega) hL) hC.x hc hs hq (fun z _ h => zx_end h.1) (fun r w9 h => st1 (mo_end hM hW (xs (nI i + 1).toNatClampNeg)) (wf_end hW (xs (nI i + 1).toNatClampNeg)) h) (fun z w9 h => st2 (mo_end hM hW (xs (nI i + 1).toNatClampNeg)) (wf_end hW (xs (nI i + 1).toNatClampNeg)) h) kk
theorem ls_entries {X : JX} {cells slots : Nat} {cI cZ cO cJ : ClassId} {gs : JP} {S : PS} {w : MW} {i b x a o L : Nat} {ad : Nat → Nat} {xs : Nat → Int32} {f : Nat → Int64} (hX : jOK X cL_law 7 wsL_law RL room_1) (hT : jT X = jTy cI cZ cO cJ) (hl : (jL X).stackTraces = false) (hGX : jG X (GL gs)) (hB : jScr X b L xs) (hi : i + 5 ≤ L) (hL : L ≤ 2560) (hR : REL gs.2.1 x S w) (hc : cells + 10 ≤ 601024) (hs : slots + 1000 ≤ 7293034)
    (kk : ∀ (f1 : Nat → Int64) (S1 : PS) (w1 : MW), REL gs.2.1 x S1 w1 → JW X (cells + 10) (slots + 1000) (mW a ad cI cZ w1 ++ (o, oE cJ f1) :: pW cI cO S1) 1307 (lwL i b x a o) []) : JW X cells slots (mW a ad cI cZ w ++ (o, oE cJ f) :: pW cI cO S) 660 (lwL i b x a o) [] := by
  obtain ⟨A, hRC, hW, hM⟩ := hR
  obtain ⟨own, g, ea, ra, aa, sp, hC⟩ := hRC
  obtain ⟨r, w1, m1, m2, m3, m4⟩ := mo_entries hM
  subst m3
  exact lq_entries hX hT hGX hB hC.x hc hs (kX6_entries hT (co_entries hC)) m1 (kk f S w1 ⟨_, hC.e, hW, m2⟩)
theorem ls_signAt {X : JX} {cells slots : Nat} {cI cZ cO cJ : ClassId} {gs : JP} {S : PS} {w : MW} {i b x a o L : Nat} {ad : Nat → Nat} {xs : Nat → Int32} {f : Nat → Int64} (hX : jOK X cL_law 7 wsL_law RL room_1) (hT : jT X = jTy cI cZ cO cJ) (hl : (jL X).stackTraces = false) (hGX : jG X (GL gs)) (hB : jScr X b L xs) (hi : i + 5 ≤ L) (hL : L ≤ 2560) (hR : REL gs.2.1 x S w) (hc : cells + 10 ≤ 601024) (hs : slots + 1000 ≤ 7293034)
    (kk : ∀ (f1 : Nat → Int64) (S1 : PS) (w1 : MW), REL gs.2.1 x S1 w1 → JW X (cells + 10) (slots + 1000) (mW a ad cI cZ w1 ++ (o, oE cJ f1) :: pW cI cO S1) 1307 (lwL i b x a o) []) : JW X cells slots (mW a ad cI cZ w ++ (o, oE cJ f) :: pW cI cO S) 673 (lwL i b x a o) [] := by
  obtain ⟨A, hRC, hW, hM⟩ := hR
  obtain ⟨own, g, ea, ra, aa, sp, hC⟩ := hRC
  have hq : CQ (jL X) gs (jD X) (jT X) yX6_signAt wsX6_signAt rmX6_signAt [.ref x, .int (xs (nI i + 1).toNatClampNeg), .int (xs (nI i + 2).toNatClampNeg), .int (xs (nI i + 3).toNatClampNeg)] cI cO S x (q_signAt A (xs (nI i + 1).toNatClampNeg) (xs (nI i + 2).toNatClampNeg) (xs (nI i + 3).toNatClampNeg)) := by
    rcases co_signAt hC hW (xs (nI i + 1).toNatClampNeg) (xs (nI i + 2).toNatClampNeg) (xs (nI i + 3).toNatClampNeg) (n := 2001) (by decide) with ⟨z, T, h1, h2, h3⟩ | ⟨r, T, h1, h2, h3⟩
    · exact CQ_inl (kxX6_signAt hl hT h2) h1 h3
    · exact CQ_inr (kX6_signAt hl hT h2) h1 h3
  exact lq_signAt (n7 := 2001) (REL := REL gs.2.1 x) hX hT hGX hB rfl (scr_in 1 (by omega) hL) rfl (scr_in 2 (by omega) hL) rfl (scr_in 3 (by omega) hL) hC.x hc hs hq (fun z _ h => zx_signAt h.1) (fun r w9 h => st1 (mo_signAt (n := 2001) hM hW (xs (nI i + 1).toNatClampNeg) (xs (nI i + 2).toNatClampNeg) (xs (nI i + 3).toNatClampNeg) (by decide)) (wf_signAt hW (xs (nI i + 1).toNatClampNeg) (xs (nI i + 2).toNatClampNeg) (xs (nI i + 3).toNatClampNeg)) h) (fun z w9 h => st2 (mo_signAt (n := 2001) hM hW (xs (nI i + 1).toNatClampNeg) (xs (nI i + 2).toNatClampNeg) (xs (nI i + 3).toNatClampNeg) (by decide)) (wf_signAt hW (xs (nI i + 1).toNatClampNeg) (xs (nI i + 2).toNatClampNeg) (xs (nI i + 3).toNatClampNeg)) h) kk
theorem ls_length {X : JX} {cells slots : Nat} {cI cZ cO cJ : ClassId} {gs : JP} {S : PS} {w : MW} {i b x a o L : Nat} {ad : Nat → Nat} {xs : Nat → Int32} {f : Nat → Int64} (hX : jOK X cL_law 7 wsL_law RL room_1) (hT : jT X = jTy cI cZ cO cJ) (hl : (jL X).stackTraces = false) (hGX : jG X (GL gs)) (hB : jScr X b L xs) (hi : i + 5 ≤ L) (hL : L ≤ 2560) (hR : REL gs.2.1 x S w) (hc : cells + 10 ≤ 601024) (hs : slots + 1000 ≤ 7293034)
    (kk : ∀ (f1 : Nat → Int64) (S1 : PS) (w1 : MW), REL gs.2.1 x S1 w1 → JW X (cells + 10) (slots + 1000) (mW a ad cI cZ w1 ++ (o, oE cJ f1) :: pW cI cO S1) 1307 (lwL i b x a o) []) : JW X cells slots (mW a ad cI cZ w ++ (o, oE cJ f) :: pW cI cO S) 753 (lwL i b x a o) [] := by
  obtain ⟨A, hRC, hW, hM⟩ := hR
  obtain ⟨own, g, ea, ra, aa, sp, hC⟩ := hRC
  have hq : CQ (jL X) gs (jD X) (jT X) yX6_length wsX6_length rmX6_length [.ref x, .int (xs (nI i + 1).toNatClampNeg), .int (xs (nI i + 2).toNatClampNeg)] cI cO S x (q_length A (xs (nI i + 1).toNatClampNeg) (xs (nI i + 2).toNatClampNeg)) := by
    rcases co_length hC hW (xs (nI i + 1).toNatClampNeg) (xs (nI i + 2).toNatClampNeg) (n := 2001) (by decide) with ⟨z, T, h1, h2, h3⟩ | ⟨r, T, h1, h2, h3⟩
    · exact CQ_inl (kxX6_length hl hT h2) h1 h3
    · exact CQ_inr (kX6_length hl hT h2) h1 h3
  exact lq_length (n7 := 2001) (REL := REL gs.2.1 x) hX hT hGX hB rfl (scr_in 1 (by omega) hL) rfl (scr_in 2 (by omega) hL) hC.x hc hs hq (fun z _ h => zx_length h.1) (fun r w9 h => st1 (mo_length (n := 2001) hM hW (xs (nI i + 1).toNatClampNeg) (xs (nI i + 2).toNatClampNeg) (by decide)) (wf_length hW (xs (nI i + 1).toNatClampNeg) (xs (nI i + 2).toNatClampNeg)) h) (fun z w9 h => st2 (mo_length (n := 2001) hM hW (xs (nI i + 1).toNatClampNeg) (xs (nI i + 2).toNatClampNeg) (by decide)) (wf_length hW (xs (nI i + 1).toNatClampNeg) (xs (nI i + 2).toNatClampNeg)) h) kk
theorem ls_proof {X : JX} {cells slots : Nat} {cI cZ cO cJ : ClassId} {gs : JP} {S : PS} {w : MW} {i b x a o L : Nat} {ad : Nat → Nat} {xs : Nat → Int32} {f : Nat → Int64} (hX : jOK X cL_law 7 wsL_law RL room_1) (hT : jT X = jTy cI cZ cO cJ) (hl : (jL X).stackTraces = false) (hGX : jG X (GL gs)) (hB : jScr X b L xs) (hi : i + 5 ≤ L) (hL : L ≤ 2560) (hR : REL gs.2.1 x S w) (hc : cells + 10 ≤ 601024) (hs : slots + 1000 ≤ 7293034)
    (kk : ∀ (f1 : Nat → Int64) (S1 : PS) (w1 : MW), REL gs.2.1 x S1 w1 → JW X (cells + 10) (slots + 1000) (mW a ad cI cZ w1 ++ (o, oE cJ f1) :: pW cI cO S1) 1307 (lwL i b x a o) []) : JW X cells slots (mW a ad cI cZ w ++ (o, oE cJ f) :: pW cI cO S) 821 (lwL i b x a o) [] := by
  obtain ⟨A, hRC, hW, hM⟩ := hR
  obtain ⟨own, g, ea, ra, aa, sp, hC⟩ := hRC
  have hq : CQ (jL X) gs (jD X) (jT X) yX6_proof wsX6_proof rmX6_proof [.ref x, .int (xs (nI i + 1).toNatClampNeg)] cI cO S x (q_proof A (xs (nI i + 1).toNatClampNeg)) := by
    obtain ⟨h0, ⟨z, h1, h2⟩ | ⟨r, h1, h2⟩⟩ := (cp_proof hC (xs (nI i + 1).toNatClampNeg) (n := 2001) (by decide)).1
    · exact CQ_inl (kxX6_proof hl hT h2) h1 (by rw [h0]; exact hC.e)
    · exact CQ_inr (kX6_proof hl hT h2) h1 (by rw [h0]; exact hC.e)
  exact lq_proof (REL := REL gs.2.1 x) hX hT hGX hB rfl (scr_in 1 (by omega) hL) hC.x hc hs hq (fun z _ h => zx_proof h.1) (fun r w9 h => st1 (mo_proof hM hW (xs (nI i + 1).toNatClampNeg)) (wf_proof hW (xs (nI i + 1).toNatClampNeg)) h) (fun z w9 h => st2 (mo_proof hM hW (xs (nI i + 1).toNatClampNeg)) (wf_proof hW (xs (nI i + 1).toNatClampNeg)) h) kk
theorem ls_proofAnew {X : JX} {cells slots : Nat} {cI cZ cO cJ : ClassId} {gs : JP} {S : PS} {w : MW} {i b x a o L : Nat} {ad : Nat → Nat} {xs : Nat → Int32} {f : Nat → Int64} (hX : jOK X cL_law 7 wsL_law RL room_1) (hT : jT X = jTy cI cZ cO cJ) (hl : (jL X).stackTraces = false) (hGX : jG X (GL gs)) (hB : jScr X b L xs) (hi : i + 5 ≤ L) (hL : L ≤ 2560) (hR : REL gs.2.1 x S w) (hc : cells + 10 ≤ 601024) (hs : slots + 1000 ≤ 7293034)
    (kk : ∀ (f1 : Nat → Int64) (S1 : PS) (w1 : MW), REL gs.2.1 x S1 w1 → JW X (cells + 10) (slots + 1000) (mW a ad cI cZ w1 ++ (o, oE cJ f1) :: pW cI cO S1) 1307 (lwL i b x a o) []) : JW X cells slots (mW a ad cI cZ w ++ (o, oE cJ f) :: pW cI cO S) 877 (lwL i b x a o) [] := by
  obtain ⟨A, hRC, hW, hM⟩ := hR
  obtain ⟨own, g, ea, ra, aa, sp, hC⟩ := hRC
  have hq : CQ (jL X) gs (jD X) (jT X) yX6_proofAnew wsX6_proofAnew rmX6_proofAnew [.ref x, .int (xs (nI i + 1).toNatClampNeg)] cI cO S x (q_proof A (xs (nI i + 1).toNatClampNeg)) := by
    obtain ⟨h0, ⟨z, h1, h2⟩ | ⟨r, h1, h2⟩⟩ := (cp_proof hC (xs (nI i + 1).toNatClampNeg) (n := 2001) (by decide)).2
    · exact CQ_inl (kxX6_proofAnew hl hT h2) h1 (by rw [h0]; exact hC.e)
    · exact CQ_inr (kX6_proofAnew hl hT h2) h1 (by rw [h0]; exact hC.e)
  exact lq_proofAnew (REL := REL gs.2.1 x) hX hT hGX hB rfl (scr_in 1 (by omega) hL) hC.x hc hs hq (fun z _ h => zx_proof h.1) (fun r w9 h => st1 (mo_proofAnew hM hW (xs (nI i + 1).toNatClampNeg)) (wf_proof hW (xs (nI i + 1).toNatClampNeg)) h) (fun z w9 h => st2 (mo_proofAnew hM hW (xs (nI i + 1).toNatClampNeg)) (wf_proof hW (xs (nI i + 1).toNatClampNeg)) h) kk
theorem ls_gets {X : JX} {cells slots : Nat} {cI cZ cO cJ : ClassId} {gs : JP} {S : PS} {w : MW} {i b x a o L : Nat} {ad : Nat → Nat} {xs : Nat → Int32} {f : Nat → Int64} (hX : jOK X cL_law 7 wsL_law RL room_1) (hT : jT X = jTy cI cZ cO cJ) (hl : (jL X).stackTraces = false) (hGX : jG X (GL gs)) (hB : jScr X b L xs) (hi : i + 5 ≤ L) (hL : L ≤ 2560) (hR : REL gs.2.1 x S w) (hc : cells + 10 ≤ 601024) (hs : slots + 1000 ≤ 7293034)
    (kk : ∀ (f1 : Nat → Int64) (S1 : PS) (w1 : MW), REL gs.2.1 x S1 w1 → JW X (cells + 10) (slots + 1000) (mW a ad cI cZ w1 ++ (o, oE cJ f1) :: pW cI cO S1) 1307 (lwL i b x a o) []) : JW X cells slots (mW a ad cI cZ w ++ (o, oE cJ f) :: pW cI cO S) 933 (lwL i b x a o) [] := by
  obtain ⟨A, hRC, hW, hM⟩ := hR
  obtain ⟨own, g, ea, ra, aa, sp, hC⟩ := hRC
  have hq : CQ (jL X) gs (jD X) (jT X) yX6_gets wsX6_gets rmX6_gets [.ref x, .int (xs (nI i + 1).toNatClampNeg), .int (xs (nI i + 2).toNatClampNeg)] cI cO S x (q_gets A (xs (nI i + 1).toNatClampNeg) (xs (nI i + 2).toNatClampNeg)) := by
    obtain ⟨h0, ⟨z, h1, h2⟩ | ⟨r, h1, h2⟩⟩ := cp_gets hC (xs (nI i + 1).toNatClampNeg) (xs (nI i + 2).toNatClampNeg)
    · exact CQ_inl (kxX6_gets hl hT h2) h1 (by rw [h0]; exact hC.e)
    · exact CQ_inr (kX6_gets hl hT h2) h1 (by rw [h0]; exact hC.e)
  exact lq_gets (n7 := 2001) (REL := REL gs.2.1 x) hX hT hGX hB rfl (scr_in 1 (by omega) hL) rfl (scr_in 2 (by omega) hL) hC.x hc hs hq (fun z _ h => zx_gets h.1) (fun r w9 h => st1 (mo_gets (n := 2001) hM hW (xs (nI i + 1).toNatClampNeg) (xs (nI i + 2).toNatClampNeg) (by decide)) (wf_gets hW (xs (nI i + 1).toNatClampNeg) (xs (nI i + 2).toNatClampNeg)) h) (fun z w9 h => st2 (mo_gets (n := 2001) hM hW (xs (nI i + 1).toNatClampNeg) (xs (nI i + 2).toNatClampNeg) (by decide)) (wf_gets hW (xs (nI i + 1).toNatClampNeg) (xs (nI i + 2).toNatClampNeg)) h) kk
theorem ls_sum {X : JX} {cells slots : Nat} {cI cZ cO cJ : ClassId} {gs : JP} {S : PS} {w : MW} {i b x a o L : Nat} {ad : Nat → Nat} {xs : Nat → Int32} {f : Nat → Int64} (hX : jOK X cL_law 7 wsL_law RL room_1) (hT : jT X = jTy cI cZ cO cJ) (hl : (jL X).stackTraces = false) (hGX : jG X (GL gs)) (hB : jScr X b L xs) (hi : i + 5 ≤ L) (hL : L ≤ 2560) (hR : REL gs.2.1 x S w) (hc : cells + 10 ≤ 601024) (hs : slots + 1000 ≤ 7293034)
    (kk : ∀ (f1 : Nat → Int64) (S1 : PS) (w1 : MW), REL gs.2.1 x S1 w1 → JW X (cells + 10) (slots + 1000) (mW a ad cI cZ w1 ++ (o, oE cJ f1) :: pW cI cO S1) 1307 (lwL i b x a o) []) : JW X cells slots (mW a ad cI cZ w ++ (o, oE cJ f) :: pW cI cO S) 1001 (lwL i b x a o) [] := by
  obtain ⟨A, hRC, hW, hM⟩ := hR
  obtain ⟨own, g, ea, ra, aa, sp, hC⟩ := hRC
  have hq : CQ (jL X) gs (jD X) (jT X) yX6_sum wsX6_sum rmX6_sum [.ref x, .int (xs (nI i + 1).toNatClampNeg), .int (xs (nI i + 2).toNatClampNeg)] cI cO S x (q_sum A (xs (nI i + 1).toNatClampNeg) (xs (nI i + 2).toNatClampNeg)) := by
    obtain ⟨h0, ⟨z, h1, h2⟩ | ⟨r, h1, h2⟩⟩ := cp_sum hC (xs (nI i + 1).toNatClampNeg) (xs (nI i + 2).toNatClampNeg) (n := 2001) (by decide)
    · exact CQ_inl (kxX6_sum hl hT h2) h1 (by rw [h0]; exact hC.e)
    · exact CQ_inr (kX6_sum hl hT h2) h1 (by rw [h0]; exact hC.e)
  exact lq_sum (n7 := 2001) (REL := REL gs.2.1 x) hX hT hGX hB rfl (scr_in 1 (by omega) hL) rfl (scr_in 2 (by omega) hL) hC.x hc hs hq (fun z _ h => zx_sum h.1) (fun r w9 h => st1 (mo_sum (n := 2001) hM hW (xs (nI i + 1).toNatClampNeg) (xs (nI i + 2).toNatClampNeg) (by decide)) (wf_sum hW (xs (nI i + 1).toNatClampNeg) (xs (nI i + 2).toNatClampNeg)) h) (fun z w9 h => st2 (mo_sum (n := 2001) hM hW (xs (nI i + 1).toNatClampNeg) (xs (nI i + 2).toNatClampNeg) (by decide)) (wf_sum hW (xs (nI i + 1).toNatClampNeg) (xs (nI i + 2).toNatClampNeg)) h) kk
theorem ls_doubts {X : JX} {cells slots : Nat} {cI cZ cO cJ : ClassId} {gs : JP} {S : PS} {w : MW} {i b x a o L : Nat} {ad : Nat → Nat} {xs : Nat → Int32} {f : Nat → Int64} (hX : jOK X cL_law 7 wsL_law RL room_1) (hT : jT X = jTy cI cZ cO cJ) (hl : (jL X).stackTraces = false) (hGX : jG X (GL gs)) (hB : jScr X b L xs) (hi : i + 5 ≤ L) (hL : L ≤ 2560) (hR : REL gs.2.1 x S w) (hc : cells + 10 ≤ 601024) (hs : slots + 1000 ≤ 7293034)
    (kk : ∀ (f1 : Nat → Int64) (S1 : PS) (w1 : MW), REL gs.2.1 x S1 w1 → JW X (cells + 10) (slots + 1000) (mW a ad cI cZ w1 ++ (o, oE cJ f1) :: pW cI cO S1) 1307 (lwL i b x a o) []) : JW X cells slots (mW a ad cI cZ w ++ (o, oE cJ f) :: pW cI cO S) 1069 (lwL i b x a o) [] := by
  obtain ⟨A, hRC, hW, hM⟩ := hR
  obtain ⟨own, g, ea, ra, aa, sp, hC⟩ := hRC
  have hq : CQ (jL X) gs (jD X) (jT X) yX6_doubts wsX6_doubts rmX6_doubts [.ref x, .int (xs (nI i + 1).toNatClampNeg)] cI cO S x (q_doubts A (xs (nI i + 1).toNatClampNeg)) := by
    obtain ⟨h0, ⟨z, h1, h2⟩ | ⟨r, h1, h2⟩⟩ := cp_doubts hC hW (xs (nI i + 1).toNatClampNeg) (n := 2001) (by decide)
    · exact CQ_inl (kxX6_doubts hl hT h2) h1 (by rw [h0]; exact hC.e)
    · exact CQ_inr (kX6_doubts hl hT h2) h1 (by rw [h0]; exact hC.e)
  exact lq_doubts (n7 := 2001) (REL := REL gs.2.1 x) hX hT hGX hB rfl (scr_in 1 (by omega) hL) hC.x hc hs hq (fun z _ h => zx_doubts h.1) (fun r w9 h => st1 (mo_doubts (n := 2001) hM hW (xs (nI i + 1).toNatClampNeg) (by decide)) (wf_doubts hW (xs (nI i + 1).toNatClampNeg)) h) (fun z w9 h => st2 (mo_doubts (n := 2001) hM hW (xs (nI i + 1).toNatClampNeg) (by decide)) (wf_doubts hW (xs (nI i + 1).toNatClampNeg)) h) kk
theorem ls_doubted {X : JX} {cells slots : Nat} {cI cZ cO cJ : ClassId} {gs : JP} {S : PS} {w : MW} {i b x a o L : Nat} {ad : Nat → Nat} {xs : Nat → Int32} {f : Nat → Int64} (hX : jOK X cL_law 7 wsL_law RL room_1) (hT : jT X = jTy cI cZ cO cJ) (hl : (jL X).stackTraces = false) (hGX : jG X (GL gs)) (hB : jScr X b L xs) (hi : i + 5 ≤ L) (hL : L ≤ 2560) (hR : REL gs.2.1 x S w) (hc : cells + 10 ≤ 601024) (hs : slots + 1000 ≤ 7293034)
    (kk : ∀ (f1 : Nat → Int64) (S1 : PS) (w1 : MW), REL gs.2.1 x S1 w1 → JW X (cells + 10) (slots + 1000) (mW a ad cI cZ w1 ++ (o, oE cJ f1) :: pW cI cO S1) 1307 (lwL i b x a o) []) : JW X cells slots (mW a ad cI cZ w ++ (o, oE cJ f) :: pW cI cO S) 1125 (lwL i b x a o) [] := by
  obtain ⟨A, hRC, hW, hM⟩ := hR
  obtain ⟨own, g, ea, ra, aa, sp, hC⟩ := hRC
  have hq : CQ (jL X) gs (jD X) (jT X) yX6_doubted wsX6_doubted rmX6_doubted [.ref x, .int (xs (nI i + 1).toNatClampNeg)] cI cO S x (q_doubted A (xs (nI i + 1).toNatClampNeg)) := by
    obtain ⟨h0, ⟨z, h1, h2⟩ | ⟨r, h1, h2⟩⟩ := cp_doubted hC hW (xs (nI i + 1).toNatClampNeg) (n := 2001) (by decide)
    · exact CQ_inl (kxX6_doubted hl hT h2) h1 (by rw [h0]; exact hC.e)
    · exact CQ_inr (kX6_doubted hl hT h2) h1 (by rw [h0]; exact hC.e)
  exact lq_doubted (n7 := 2001) (REL := REL gs.2.1 x) hX hT hGX hB rfl (scr_in 1 (by omega) hL) hC.x hc hs hq (fun z _ h => zx_doubted h.1) (fun r w9 h => st1 (mo_doubted (n := 2001) hM hW (xs (nI i + 1).toNatClampNeg) (by decide)) (wf_doubted hW (xs (nI i + 1).toNatClampNeg)) h) (fun z w9 h => st2 (mo_doubted (n := 2001) hM hW (xs (nI i + 1).toNatClampNeg) (by decide)) (wf_doubted hW (xs (nI i + 1).toNatClampNeg)) h) kk
theorem ls_isFrozen {X : JX} {cells slots : Nat} {cI cZ cO cJ : ClassId} {gs : JP} {S : PS} {w : MW} {i b x a o L : Nat} {ad : Nat → Nat} {xs : Nat → Int32} {f : Nat → Int64} (hX : jOK X cL_law 7 wsL_law RL room_1) (hT : jT X = jTy cI cZ cO cJ) (hl : (jL X).stackTraces = false) (hGX : jG X (GL gs)) (hB : jScr X b L xs) (hi : i + 5 ≤ L) (hL : L ≤ 2560) (hR : REL gs.2.1 x S w) (hc : cells + 10 ≤ 601024) (hs : slots + 1000 ≤ 7293034)
    (kk : ∀ (f1 : Nat → Int64) (S1 : PS) (w1 : MW), REL gs.2.1 x S1 w1 → JW X (cells + 10) (slots + 1000) (mW a ad cI cZ w1 ++ (o, oE cJ f1) :: pW cI cO S1) 1307 (lwL i b x a o) []) : JW X cells slots (mW a ad cI cZ w ++ (o, oE cJ f) :: pW cI cO S) 1181 (lwL i b x a o) [] := by
  obtain ⟨A, hRC, hW, hM⟩ := hR
  obtain ⟨own, g, ea, ra, aa, sp, hC⟩ := hRC
  have hq : CQ (jL X) gs (jD X) (jT X) yX6_isFrozen wsX6_isFrozen rmX6_isFrozen [.ref x, .int (xs (nI i + 1).toNatClampNeg)] cI cO S x (q_isFrozen A (xs (nI i + 1).toNatClampNeg)) := by
    obtain ⟨h0, ⟨z, h1, h2⟩ | ⟨r, h1, h2⟩⟩ := cp_isFrozen hC hW (xs (nI i + 1).toNatClampNeg) (n := 2001) (by decide)
    · exact CQ_inl (kxX6_isFrozen hl hT h2) h1 (by rw [h0]; exact hC.e)
    · exact CQ_inr (kX6_isFrozen hl hT h2) h1 (by rw [h0]; exact hC.e)
  exact lq_isFrozen (n7 := 2001) (REL := REL gs.2.1 x) hX hT hGX hB rfl (scr_in 1 (by omega) hL) hC.x hc hs hq (fun z _ h => zx_isFrozen h.1) (fun r w9 h => st1 (mo_isFrozen (n := 2001) hM hW (xs (nI i + 1).toNatClampNeg) (by decide)) (wf_isFrozen hW (xs (nI i + 1).toNatClampNeg)) h) (fun z w9 h => st2 (mo_isFrozen (n := 2001) hM hW (xs (nI i + 1).toNatClampNeg) (by decide)) (wf_isFrozen hW (xs (nI i + 1).toNatClampNeg)) h) kk
theorem ls_holds {X : JX} {cells slots : Nat} {cI cZ cO cJ : ClassId} {gs : JP} {S : PS} {w : MW} {i b x a o L : Nat} {ad : Nat → Nat} {xs : Nat → Int32} {f : Nat → Int64} (hX : jOK X cL_law 7 wsL_law RL room_1) (hT : jT X = jTy cI cZ cO cJ) (hl : (jL X).stackTraces = false) (hGX : jG X (GL gs)) (hB : jScr X b L xs) (hi : i + 5 ≤ L) (hL : L ≤ 2560) (hR : REL gs.2.1 x S w) (hc : cells + 10 ≤ 601024) (hs : slots + 1000 ≤ 7293034)
    (kk : ∀ (f1 : Nat → Int64) (S1 : PS) (w1 : MW), REL gs.2.1 x S1 w1 → JW X (cells + 10) (slots + 1000) (mW a ad cI cZ w1 ++ (o, oE cJ f1) :: pW cI cO S1) 1307 (lwL i b x a o) []) : JW X cells slots (mW a ad cI cZ w ++ (o, oE cJ f) :: pW cI cO S) 1244 (lwL i b x a o) [] := by
  obtain ⟨A, hRC, hW, hM⟩ := hR
  obtain ⟨own, g, ea, ra, aa, sp, hC⟩ := hRC
  have hq : CQ (jL X) gs (jD X) (jT X) yX6_holds wsX6_holds rmX6_holds [.ref x, .int (xs (nI i + 1).toNatClampNeg)] cI cO S x (q_holds A (xs (nI i + 1).toNatClampNeg)) := by
    obtain ⟨h0, ⟨z, h1, h2⟩ | ⟨r, h1, h2⟩⟩ := cp_holds hC hW (xs (nI i + 1).toNatClampNeg) (n := 2001) (by decide)
    · exact CQ_inl (kxX6_holds hl hT h2) h1 (by rw [h0]; exact hC.e)
    · exact CQ_inr (kX6_holds hl hT h2) h1 (by rw [h0]; exact hC.e)
  exact lq_holds (REL := REL gs.2.1 x) hX hT hGX hB rfl (scr_in 1 (by omega) hL) hC.x hc hs hq (fun z _ h => zx_holds h.1) (fun r w9 h => st1 (mo_holds hM hW (xs (nI i + 1).toNatClampNeg)) (wf_holds hW (xs (nI i + 1).toNatClampNeg)) h) (fun z w9 h => st2 (mo_holds hM hW (xs (nI i + 1).toNatClampNeg)) (wf_holds hW (xs (nI i + 1).toNatClampNeg)) h) kk
