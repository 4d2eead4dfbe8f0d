/-! SOUNDNESS, 12e: all of the law's instructions -/
section SD7J
variable {p : Program} {l : Launch} {e : Env} {R : Room} {s : State} {m : MethodId} {args : Array Value} {below : List Frame} {meth : Method} {c : Code} {Q : State → Prop} {g : sd_G} {mi : Nat} {res : ev_O} {μz : ev_M} {K : ev_K}
/-- a call that returned, and memory told otherwise behind it -/
theorem sd_callsG (C : sd_cx p l R s m args meth c g mi) (hK : sd_K p l e R s m args below meth c Q g mi res μz K) {call : ev_F → ev_M → ev_T} (hP : sd_P l g call) {pc a b len : Nat} {tb : List Nat} (hck : sd_kcall mi pc a b len tb = true) {ls st : List ev_V} {μ μ1 μ2 : ev_M} {z : Option ev_V} {cl sl : Nat} {H : Heap} {locs : List Loc} {vl : Array Slot} {vs : List Value}
    (hr : b ≤ st.length ∧ ev_wd (st.drop b) ≤ 8 ∧ ev_fr a < ev_fr mi ∧ 19 + ev_ml a + ev_lr a ≤ ev_lr mi ∧ ev_rc (tb.getD 2 0) a ((st.take b).reverse) = true ∧ ev_pl ((st.take b).reverse) = true ∧ cl + ev_mc a ≤ ev_mc mi ∧ sl + ev_ms a ≤ ev_ms mi)
    (hc : call (a, 0, (st.take b).reverse, [], 0, 0) μ = some (.inl z, μ1)) (hg : ∀ H, sd_R g μ1 H → sd_R g μ2 H) (hnn : sd_nn μ2 = sd_nn μ1) (hl : sd_l g (sd_nn μ) (ev_ml mi) ls vl) (hs : sd_s g (sd_nn μ) st vs) (hS : va_S (sd_A g) s.heap H locs) (hR : sd_R g μ H)
    (kr : K (pc + len) ls (z.toList ++ st.drop b) μ2 (cl + ev_mc a) (sl + ev_ms a) = some (res, μz)) : W p l e R s m args below meth c H locs cl sl Q (F0 m pc vl vs) := by
  obtain ⟨h1, h2, h3, h4, h5, h6, h7, h8⟩ := hr
  obtain ⟨hmono, r1, r2⟩ := sd_call C hP hck h1 h2 h3 h4 h5 h6 h7 h8 hc hl.1 hs hS hR
  have hlen : len = 3 := by
    simp only [sd_kcall, Bool.and_eq_true] at hck
    exact Nat.eq_of_beq_eq_true hck.1
  subst hlen
  refine sd_back (r1 ⟨z, rfl⟩) hS fun H1 locs1 v hv hS1 hR1 => ?_
  have hl' := hl.mono hmono
  have hs' := (hs.drop b).mono hmono
  rw [← hnn] at hl' hs'
  cases z with
  | none =>
    cases hv
    exact hK _ _ _ _ _ _ _ _ _ _ ⟨h7, h8⟩ kr hl' hs' hS1 (hg _ hR1)
  | some x =>
    obtain ⟨w, rfl, hw⟩ := hv
    rw [← hnn] at hw
    exact hK _ _ _ _ _ _ _ _ _ _ ⟨h7, h8⟩ kr hl' ⟨hw, hs'⟩ hS1 (hg _ hR1)
/-- an int that is not negative -/
theorem sd_clamp {y : Int32} (h : ¬ y < 0) : Int32.ofNat y.toNatClampNeg = y := by
  have h0 : (0 : Int) ≤ y.toInt := by
    have := Int32.not_lt.mp h
    simpa using Int32.le_iff_toInt_le.mp this
  have h1 := Int32.toInt_le y
  have h2 : Int32.maxValue.toInt = 2147483647 := by decide
  apply Int32.toInt_inj.mp
  show (Int32.ofNat y.toInt.toNat).toInt = _
  rw [show (Int32.ofNat y.toInt.toNat).toInt = ((y.toInt.toNat : Nat) : Int) from nI_toInt (by omega)]
  omega
theorem sd_k7e {mi pc h a b len : Nat} {x : Int32} {tb : List Nat} (h1 : h ≠ 18) (h2 : h ≠ 19) (h3 : h ≠ 20) (h4 : h ≠ 28) (h5 : h ≠ 27) : sd_k7 mi pc h a b len x tb = sd_k7a mi pc h a b len x tb := by
  unfold sd_k7
  split <;> first | rfl | (exfalso; omega)
theorem sd_g7 (C : sd_cx p l R s m args meth c g mi) (hK : sd_K p l e R s m args below meth c Q g mi res μz K) {call : ev_F → ev_M → ev_T} (hP : sd_P l g call) (hX : sd_E p l e R s m args below meth c Q g mi res μz) {pc h a b len : Nat} {x : Int32} {tb : List Nat} (hck : sd_k7 mi pc h a b len x tb = true) {ls st : List ev_V} {μ : ev_M} {cl sl : Nat} {H : Heap} {locs : List Loc} {vl : Array Slot} {vs : List Value}
    (hev : ev_g7 call mi h a b len x tb pc ls st μ cl sl K = some (res, μz)) (hl : sd_l g (sd_nn μ) (ev_ml mi) ls vl) (hs : sd_s g (sd_nn μ) st vs) (hS : va_S (sd_A g) s.heap H locs) (hR : sd_R g μ H) (hcs : cl ≤ ev_mc mi ∧ sl ≤ ev_ms mi) : W p l e R s m args below meth c H locs cl sl Q (F0 m pc vl vs) := by
  have C0 := C
  obtain ⟨hx, hb, hml, hown, hts, hXs, hlk, htr, hz, ⟨hrf, hrl, hrc, hrs⟩, -⟩ := C
  have hArr := sd_arr hXs.1
  have hl0 := hl
  have hs0 := hs
  have hR0 := hR
  obtain ⟨n, lk, d, w, t, ee, q⟩ := μ
  have kk : ∀ {pc : Nat} {ls st : List ev_V} {μ : ev_M} {H : Heap} {locs : List Loc} {vs : List Value}, K pc ls st μ cl sl = some (res, μz) → sd_l g (sd_nn μ) (ev_ml mi) ls vl → sd_s g (sd_nn μ) st vs → va_S (sd_A g) s.heap H locs → sd_R g μ H → W p l e R s m args below meth c H locs cl sl Q (F0 m pc vl vs) := fun a b c d e => hK _ _ _ _ _ _ _ _ _ _ hcs a b c d e
  unfold ev_g7 at hev
  dsimp only at hev
  split at hev
  · -- getfield
    rw [sd_k7e (by decide) (by decide) (by decide) (by decide) (by decide)] at hck
    split at hev
    · rename_i r i rest
      have hQ := sd_bif hev
      clear hev
      obtain ⟨hc, hev⟩ := hQ
      simp only [Bool.and_eq_true] at hc
      have hkn : ev_ln r = (0, a) := Prod.ext (Nat.eq_of_beq_eq_true hc.1) (Nat.eq_of_beq_eq_true hc.2)
      obtain ⟨hr0, hr1⟩ := sd_ln6 (r := r) (by rw [hkn]; show 0 < 6; decide)
      obtain ⟨vs', rfl, hg, hs'⟩ := hs.consK (sd_kr2 hr0)
      have ha := hg.2.2.2.2 hr0
      obtain ⟨qq, hq, hO⟩ := sd_l0 (sd_lcl hR ha) hkn
      have hqn := (sd_lfl hr0 hr1 hkn hq).1
      have hb2 : b < sd_lz r := by
        simp only [sd_k7a, Bool.and_eq_true] at hck
        have := Nat.le_of_ble_eq_true hck.2.2.1
        unfold sd_lz
        rw [hkn]
        exact this
      cases hrf2 : ev_lf r b with
      | true =>
        rw [hrf2] at hev
        have hQ := sd_lqe hev
        clear hev
        obtain ⟨j, hj, hev⟩ := hQ
        have hir : sd_ir r b = true := by unfold sd_ir; rw [hkn]; exact hrf2
        have elr : sd_lr r b = ev_lt r b := by unfold sd_lr; simp only [hkn]
        have hgd := sd_lgd hR ha hir hb2 hj
        have hkr := sd_lr_kr hr0 hr1 hir hb2
        refine sd_lget C0 hck hq hqn hO (kk hev hl ⟨?_, hs'⟩ hS hR)
        have e9 : (if ev_lf r b = true then sd_lu g (w, t, ee, q) r i b else .int (ee r i b)) = .ref (sd_ad g (sd_lr r b) j) := by
          rw [hrf2, if_pos rfl]
          unfold sd_lu
          show (match q r i b with | 0 => Value.null | j + 1 => .ref (sd_ad g (sd_lr r b) j)) = _
          rw [hj]
        show sd_v g (n, w, t) _ (if ev_lf r b = true then sd_lu g (w, t, ee, q) r i b else .int (ee r i b))
        rw [e9, ← elr]
        exact sd_vr hgd hkr
      | false =>
        rw [hrf2] at hev
        refine sd_lget C0 hck hq hqn hO (kk hev hl ⟨?_, hs'⟩ hS hR)
        show (if ev_lf r b = true then sd_lu g (w, t, ee, q) r i b else .int (ee r i b)) = .int (ee r i b)
        rw [hrf2]
        rfl
    · cases hev
  · -- putfield
    rw [sd_k7e (by decide) (by decide) (by decide) (by decide) (by decide)] at hck
    have hck2 := hck
    simp only [sd_k7a, Bool.and_eq_true] at hck2
    have hbz := Nat.le_of_ble_eq_true hck2.2.2.1
    split at hev
    · rename_i v r i rest
      have hQ := sd_bif hev
      clear hev
      obtain ⟨hc, hev⟩ := hQ
      simp only [Bool.and_eq_true, Bool.not_eq_true'] at hc
      have hkn : ev_ln r = (0, a) := Prod.ext (Nat.eq_of_beq_eq_true hc.1) (Nat.eq_of_beq_eq_true hc.2.1)
      obtain ⟨hr0, hr1⟩ := sd_ln6 (r := r) (by rw [hkn]; show 0 < 6; decide)
      obtain ⟨vs1, rfl, hs1⟩ := hs.consI
      obtain ⟨vs', rfl, hg, hs'⟩ := hs1.consK (sd_kr2 hr0)
      have ha := hg.2.2.2.2 hr0
      obtain ⟨qq, hq, hO⟩ := sd_l0 (sd_lcl hR ha) hkn
      obtain ⟨hqn, hfl⟩ := sd_lfl hr0 hr1 hkn hq
      have hbn : b < qq.2.2 := by rw [hqn]; exact hbz
      obtain ⟨ty, hp, hn2, hft⟩ := sd_okf hc.2.2.2 sd_lyn3
      have hp2 : parseFieldDescriptor (qq.2.1 b).2.2.1 = some ty := by
        rcases hfl b hbn with ⟨h1, -⟩ | ⟨-, h3⟩
        · rw [hc.2.2.1] at h1; cases h1
        · rw [h3]; exact hp
      refine sd_lputf C0 hck hq hqn hO hp2 hn2 hft fun H1 sl' e1 z1 oq => kk hev hl hs' (hS.put z1 oq (sd_ad_gl hr0)) (hR.lputi ha z1 oq ?_)
      unfold sd_lc
      rw [hkn]
      refine ⟨qq, hq, t_OB.to e1 (fun j hj => ?_)⟩
      show (if j = b then Value.int v else (if ev_lf r j = true then sd_lu g (w, t, ee, q) r i j else .int (ee r i j))) = (if ev_lf r j = true then sd_lu g (w, t, ev_u3 ee r i b v, q) r i j else .int (ev_u3 ee r i b v r i j))
      rw [sd_u3_on]
      by_cases z : j = b
      · rw [if_pos z, z, hc.2.2.1, if_neg (by decide), if_pos rfl]
      · rw [if_neg z, if_neg z]
        rfl
    · rename_i r' i' r i rest
      have hQ := sd_bif hev
      clear hev
      obtain ⟨hc, hev⟩ := hQ
      simp only [Bool.and_eq_true] at hc
      have hkn : ev_ln r = (0, a) := Prod.ext (Nat.eq_of_beq_eq_true hc.1) (Nat.eq_of_beq_eq_true hc.2.1)
      obtain ⟨hr0, hr1⟩ := sd_ln6 (r := r) (by rw [hkn]; show 0 < 6; decide)
      have er' := Nat.eq_of_beq_eq_true hc.2.2.2
      have hb2 : b < sd_lz r := by unfold sd_lz; rw [hkn]; exact hbz
      have hir : sd_ir r b = true := by unfold sd_ir; rw [hkn]; exact hc.2.2.1
      have elr : sd_lr r b = ev_lt r b := by unfold sd_lr; simp only [hkn]
      have hkr := sd_lr_kr hr0 hr1 hir hb2
      rw [elr, ← er'] at hkr
      obtain ⟨vs1, rfl, hg', hs1⟩ := hs.consK hkr
      obtain ⟨vs', rfl, hg, hs'⟩ := hs1.consK (sd_kr2 hr0)
      have ha := hg.2.2.2.2 hr0
      obtain ⟨qq, hq, hO⟩ := sd_l0 (sd_lcl hR ha) hkn
      obtain ⟨hqn, hfl⟩ := sd_lfl hr0 hr1 hkn hq
      have hbn : b < qq.2.2 := by rw [hqn]; exact hbz
      obtain ⟨ty, hp2, href⟩ : ∃ ty, parseFieldDescriptor (qq.2.1 b).2.2.1 = some ty ∧ ty.isReference = true := by
        rcases hfl b hbn with ⟨-, h2⟩ | ⟨h1, -⟩
        · exact h2
        · rw [hc.2.2.1] at h1; cases h1
      refine sd_lputf C0 hck hq hqn hO hp2 (sd_narR _ _) (sd_fitR _ href) fun H1 sl' e1 z1 oq => kk hev hl hs' (hS.put z1 oq (sd_ad_gl hr0)) (hR.lputr ha (by rw [elr, ← er']; exact hg') z1 oq ?_)
      unfold sd_lc
      rw [hkn]
      refine ⟨qq, hq, t_OB.to e1 (fun j hj => ?_)⟩
      show (if j = b then Value.ref (sd_ad g r' i') else (if ev_lf r j = true then sd_lu g (w, t, ee, q) r i j else .int (ee r i j))) = (if ev_lf r j = true then sd_lu g (w, t, ee, ev_n3 q r i b (i' + 1)) r i j else .int (ee r i j))
      rw [sd_lu_n3]
      by_cases z : j = b
      · rw [if_pos z, if_pos z, z, hc.2.2.1, if_pos rfl, elr, er']
      · rw [if_neg z, if_neg z]
    · cases hev
  · -- loads
    rw [sd_k7e (by decide) (by decide) (by decide) (by decide) (by decide)] at hck
    simp only [sd_k7a, Bool.and_eq_true] at hck
    have el := Nat.eq_of_beq_eq_true hck.2
    subst el
    have hck := hck.1
    split at hev
    · rename_i y r i rest
      obtain ⟨vs1, rfl, hs1⟩ := hs.consI
      split at hev
      · rename_i k hkn
        have hQ := sd_bif hev
        clear hev
        obtain ⟨hc1, hev⟩ := hQ
        have hQ := sd_bif hev
        clear hev
        obtain ⟨hc2, hev⟩ := hQ
        have ea := Nat.eq_of_beq_eq_true hc1
        subst ea
        obtain ⟨hr0, hr1⟩ := sd_ln6 (r := r) (by rw [hkn]; show 1 < 6; decide)
        obtain ⟨vs', rfl, hg, hs'⟩ := hs1.consK (sd_kr2 hr0)
        have hcell := sd_l1 (sd_lcl hR (hg.2.2.2.2 hr0)) hkn
        exact W.iald (v := .int (ee r i y.toNatClampNeg)) hx hb hcell (hArr.1 _ _) (fun q => by cases q) (sd_arrin hc2) (by rw [arrV_read _ _ (sd_in_lt hc2)]) rfl rfl (sd_is_eq hck) (kk hev hl ⟨rfl, hs'⟩ hS hR)
      · rename_i k hkn
        have hQ := sd_bif hev
        clear hev
        obtain ⟨hc1, hev⟩ := hQ
        have hQ := sd_bif hev
        clear hev
        obtain ⟨hc2, hev⟩ := hQ
        have ea := Nat.eq_of_beq_eq_true hc1
        subst ea
        obtain ⟨hr0, hr1⟩ := sd_ln6 (r := r) (by rw [hkn]; show 3 < 6; decide)
        obtain ⟨vs', rfl, hg, hs'⟩ := hs1.consK (sd_kr2 hr0)
        have hcell := (sd_l3 (sd_lcl hR (hg.2.2.2.2 hr0)) hkn).1
        exact W.zald (v := .int (ee r i y.toNatClampNeg)) hx hb hcell (hArr.2.2.1 _ _) (fun q => by cases q) (sd_arrin hc2) (by rw [arrV_read _ _ (sd_in_lt hc2)]) rfl rfl (sd_is_eq hck) (kk hev hl ⟨rfl, hs'⟩ hS hR)
      · rename_i k hkn
        have hQ := sd_bif hev
        clear hev
        obtain ⟨hc1, hev⟩ := hQ
        have hQ := sd_bif hev
        clear hev
        obtain ⟨hc2, hev⟩ := hQ
        have ea := Nat.eq_of_beq_eq_true hc1
        subst ea
        obtain ⟨hr0, hr1⟩ := sd_ln6 (r := r) (by rw [hkn]; show 2 < 6; decide)
        obtain ⟨vs', rfl, hg, hs'⟩ := hs1.consK (sd_kr2 hr0)
        have hcell := (sd_l2 (sd_lcl hR (hg.2.2.2.2 hr0)) hkn).1
        exact W.bald (v := .int (ee r i y.toNatClampNeg)) hx hb hcell (hArr.2.1 _ _) (fun q => by cases q) (sd_arrin hc2) (by rw [arrV_read _ _ (sd_in_lt hc2)]) rfl rfl (sd_is_eq hck) (kk hev hl ⟨rfl, hs'⟩ hS hR)
      · rename_i k hkn
        have hQ := sd_bif hev
        clear hev
        obtain ⟨hc1, hev⟩ := hQ
        have hQ := sd_bif hev
        clear hev
        obtain ⟨hc2, hev⟩ := hQ
        have ea := Nat.eq_of_beq_eq_true hc1
        subst ea
        have hr := (sd_lnx (k := k)).2.1 hkn
        subst hr
        obtain ⟨vs', rfl, hg, hs'⟩ := hs1.consR (by decide)
        have hT := ((hXs.2.2.2.2.1 i (by have := hg.2.2.1 rfl; omega)).1 (hg.2.2.1 rfl)).2
        exact va_ti hx hb hT hS (sd_in_vp hc2) rfl (sd_is_eq hck) (kk hev hl ⟨rfl, hs'⟩ hS hR)
      · rename_i k hkn
        have hQ := sd_bif hev
        clear hev
        obtain ⟨hc1, hev⟩ := hQ
        have hQ := sd_bif hev
        clear hev
        obtain ⟨hc2, hev⟩ := hQ
        have ea := Nat.eq_of_beq_eq_true hc1
        subst ea
        have hr := (sd_lnx (k := k)).2.2.1 hkn
        subst hr
        obtain ⟨vs', rfl, hg, hs'⟩ := hs1.consR (by decide)
        obtain ⟨-, -, -, hxs, hL, -⟩ := id hR
        obtain ⟨hxx, hlt⟩ := hXs.2.2.2.2.2.2.2.2.2.2
        have hxs : d 103 0 = g.2.2.2.2.2.2.2.2 := hxs
        have hL : d 104 0 0 = Int32.ofNat g.2.2.2.2.2.2.2.1 := hL
        have hin : ev_in y g.2.2.2.2.2.2.2.1 = true := by
          have h2 := hc2
          rw [hL] at h2
          simp only [ev_in, Bool.and_eq_true] at h2 ⊢
          refine ⟨h2.1, Nat.ble_eq.mpr ?_⟩
          have h3 := Nat.le_of_ble_eq_true h2.2
          have h4 := sd_clL g.2.2.2.2.2.2.2.1
          omega
        have key := va_sld (Q := Q) (below := below) (e := e) (args := args) (m := m) (ls := vl) (rest := vs') (cells := cl) (slots := sl) (l := l) (R := R) (meth := meth) hx hb hxx (Nat.lt_of_lt_of_le hlt C0.2.2.2.2.2.2.2.2.1) (show ¬ sd_A g g.2.2.2.2.2.2.1 from Nat.not_le.mpr hlt) hS (sd_in_vp hin) (sd_is_eq hck)
        have ead : sd_ad g 103 i = g.2.2.2.2.2.2.1 := rfl
        rw [ead]
        refine key ?_
        rw [← hxs]
        exact kk hev hl ⟨rfl, hs'⟩ hS hR
      · rename_i k hkn
        have hQ := sd_bif hev
        clear hev
        obtain ⟨hc1, hev⟩ := hQ
        have hQ := sd_bif hev
        clear hev
        obtain ⟨hc2, hev⟩ := hQ
        have ea := Nat.eq_of_beq_eq_true hc1
        subst ea
        have hr := (sd_lnx (k := k)).2.2.2 hkn
        subst hr
        obtain ⟨vs', rfl, hg, hs'⟩ := hs1.consK (Or.inr (Or.inl rfl))
        have hi2 := hg.2.2.2.1 rfl
        have hT := ((hXs.2.2.2.2.1 (5 + i) (by omega)).2 (by omega)).2
        rw [show 5 + i - 5 = i by omega] at hT
        exact va_tb hx hb hT hS (sd_in_vp hc2) rfl (sd_is_eq hck) (kk hev hl ⟨rfl, hs'⟩ hS hR)
      · cases hev
    · cases hev
  · -- aaload
    rw [sd_k7e (by decide) (by decide) (by decide) (by decide) (by decide)] at hck
    simp only [sd_k7a, Bool.and_eq_true] at hck
    have el := Nat.eq_of_beq_eq_true hck.2
    subst el
    split at hev
    · rename_i y r i rest
      obtain ⟨vs1, rfl, hs1⟩ := hs.consI
      split at hev
      · rename_i k hkn
        have hQ := sd_bif hev
        clear hev
        obtain ⟨hc, hev⟩ := hQ
        have hQ := sd_lqe hev
        clear hev
        obtain ⟨j, hj, hev⟩ := hQ
        obtain ⟨hr0, hr1⟩ := sd_ln6 (r := r) (by rw [hkn]; show 5 < 6; decide)
        obtain ⟨vs', rfl, hg, hs'⟩ := hs1.consK (sd_kr2 hr0)
        have ha := hg.2.2.2.2 hr0
        have hcell := sd_l5 (sd_lcl hR ha) hkn
        have hir : sd_ir r y.toNatClampNeg = true := by unfold sd_ir; simp only [hkn]
        have hb2 : y.toNatClampNeg < sd_lz r := by unfold sd_lz; rw [hkn]; exact sd_in_lt hc
        have elr : sd_lr r y.toNatClampNeg = ev_le r := by unfold sd_lr; simp only [hkn]
        have hgd := sd_lgd hR ha hir hb2 hj
        have hkr := sd_lr_kr hr0 hr1 hir hb2
        rw [elr] at hgd hkr
        have hlv : sd_lu g (w, t, ee, q) r i y.toNatClampNeg = .ref (sd_ad g (ev_le r) j) := by
          unfold sd_lu
          show (match q r i y.toNatClampNeg with | 0 => Value.null | j + 1 => .ref (sd_ad g (sd_lr r y.toNatClampNeg) j)) = _
          rw [hj, elr]
        rcases sd_k207 r (by omega) (by rw [hkn]) with ⟨z, -⟩ | ⟨z, -⟩
        · rw [if_pos z] at hcell
          exact W.aald (v := .ref (sd_ad g (ev_le r) j)) (ty := .object RX11) hx hb hcell (hArr.2.2.2.1 _ _) rfl (fun q => by cases q) (sd_arrin hc) (by rw [arrV_read _ _ (sd_in_lt hc), hlv]) rfl rfl (sd_is_eq hck.1) (kk hev hl ⟨sd_vr hgd hkr, hs'⟩ hS hR)
        · rw [if_neg (by omega)] at hcell
          exact W.aald (v := .ref (sd_ad g (ev_le r) j)) (ty := .object RJ0) hx hb hcell (hArr.2.2.2.2.2 _ _) rfl (fun q => by cases q) (sd_arrin hc) (by rw [arrV_read _ _ (sd_in_lt hc), hlv]) rfl rfl (sd_is_eq hck.1) (kk hev hl ⟨sd_vr hgd hkr, hs'⟩ hS hR)
      · cases hev
    · cases hev
  · -- stores
    rw [sd_k7e (by decide) (by decide) (by decide) (by decide) (by decide)] at hck
    simp only [sd_k7a, Bool.and_eq_true] at hck
    have el := Nat.eq_of_beq_eq_true hck.2
    subst el
    have hck := hck.1
    split at hev
    · rename_i v y r i rest
      obtain ⟨vs0, rfl, hs7⟩ := hs.consI
      obtain ⟨vs1, rfl, hs1⟩ := hs7.consI
      split at hev
      · rename_i k hkn
        have hQ := sd_bif hev
        clear hev
        obtain ⟨hc1, hev⟩ := hQ
        have hQ := sd_bif hev
        clear hev
        obtain ⟨hc2, hev⟩ := hQ
        have ea := Nat.eq_of_beq_eq_true hc1
        subst ea
        obtain ⟨hr0, hr1⟩ := sd_ln6 (r := r) (by rw [hkn]; show 1 < 6; decide)
        obtain ⟨vs', rfl, hg, hs'⟩ := hs1.consK (sd_kr2 hr0)
        have ha := hg.2.2.2.2 hr0
        have hcell := sd_l1 (sd_lcl hR ha) hkn
        refine W.iast hx hb hcell (hArr.1 _ _) (fun q => by cases q) (sd_arrin hc2) rfl rfl (sd_is_eq hck) (fun H1 e1 z oq => kk hev hl hs' (hS.put z oq (sd_ad_gl hr0)) (hR.lputi ha z oq (sd_l1' hkn ?_)))
        rw [e1, arrV_store]
        congr 2
        funext j
        show (if j = y.toNatClampNeg then Value.int v else .int (ee r i j)) = .int (ev_u3 ee r i y.toNatClampNeg v r i j)
        rw [sd_u3_on]
        by_cases z : j = y.toNatClampNeg
        · rw [if_pos z, if_pos z]
        · rw [if_neg z, if_neg z]
      · rename_i k hkn
        have hQ := sd_bif hev
        clear hev
        obtain ⟨hc1, hev⟩ := hQ
        have hQ := sd_bif hev
        clear hev
        obtain ⟨hc2, hev⟩ := hQ
        have ea := Nat.eq_of_beq_eq_true hc1
        subst ea
        obtain ⟨hr0, hr1⟩ := sd_ln6 (r := r) (by rw [hkn]; show 2 < 6; decide)
        obtain ⟨vs', rfl, hg, hs'⟩ := hs1.consK (sd_kr2 hr0)
        have ha := hg.2.2.2.2 hr0
        obtain ⟨hcell, h199, hbf⟩ := sd_l2 (sd_lcl hR ha) hkn
        have h9 : ev_u3 ee r i y.toNatClampNeg v.toInt8.toInt32 199 i 0 = ee 199 i 0 := sd_u3_off 0 (fun z => by omega)
        refine W.bast hx hb hcell (hArr.2.1 _ _) (fun q => by cases q) (sd_arrin hc2) rfl rfl (sd_is_eq hck) (fun H1 e1 z oq => kk hev hl hs' (hS.put z oq (sd_ad_gl hr0)) (hR.lputi ha z oq (sd_l2' hkn ?_)))
        show H1[sd_ad g r i]? = some (arrV (g.2.2.1 2) (ev_u3 ee r i y.toNatClampNeg v.toInt8.toInt32 199 i 0).toNatClampNeg (fun k => .int (ev_u3 ee r i y.toNatClampNeg v.toInt8.toInt32 r i k))) ∧ ev_u3 ee r i y.toNatClampNeg v.toInt8.toInt32 199 i 0 = Int32.ofNat (ev_u3 ee r i y.toNatClampNeg v.toInt8.toInt32 199 i 0).toNatClampNeg ∧ ∀ k, k < (ev_u3 ee r i y.toNatClampNeg v.toInt8.toInt32 199 i 0).toNatClampNeg → fits .byte (.int (ev_u3 ee r i y.toNatClampNeg v.toInt8.toInt32 r i k)) = true
        rw [h9]
        refine ⟨?_, h199, fun k hk => ?_⟩
        · rw [e1, arrV_store]
          congr 2
          funext j
          show (if j = y.toNatClampNeg then Value.int v.toInt8.toInt32 else .int (ee r i j)) = .int (ev_u3 ee r i y.toNatClampNeg v.toInt8.toInt32 r i j)
          rw [sd_u3_on]
          by_cases z : j = y.toNatClampNeg
          · rw [if_pos z, if_pos z]
          · rw [if_neg z, if_neg z]
        · rw [sd_u3_on]
          by_cases z : k = y.toNatClampNeg
          · rw [if_pos z]; exact sd_fit8 _
          · rw [if_neg z]; exact hbf k hk
      · rename_i k hkn
        have hQ := sd_bif hev
        clear hev
        obtain ⟨hc1, hev⟩ := hQ
        have hQ := sd_bif hev
        clear hev
        obtain ⟨hc2, hev⟩ := hQ
        have ea := Nat.eq_of_beq_eq_true hc1
        subst ea
        obtain ⟨hr0, hr1⟩ := sd_ln6 (r := r) (by rw [hkn]; show 3 < 6; decide)
        obtain ⟨vs', rfl, hg, hs'⟩ := hs1.consK (sd_kr2 hr0)
        have ha := hg.2.2.2.2 hr0
        obtain ⟨hcell, hbf⟩ := sd_l3 (sd_lcl hR ha) hkn
        refine W.zast hx hb hcell (hArr.2.2.1 _ _) (fun q => by cases q) (sd_arrin hc2) rfl rfl (sd_is_eq hck) (fun H1 e1 z oq => kk hev hl hs' (hS.put z oq (sd_ad_gl hr0)) (hR.lputi ha z oq (sd_l3' hkn ⟨?_, fun k hk => ?_⟩)))
        · rw [e1, arrV_store]
          congr 2
          funext j
          show (if j = y.toNatClampNeg then Value.int (v &&& 1) else .int (ee r i j)) = .int (ev_u3 ee r i y.toNatClampNeg (v &&& 1) r i j)
          rw [sd_u3_on]
          by_cases z : j = y.toNatClampNeg
          · rw [if_pos z, if_pos z]
          · rw [if_neg z, if_neg z]
        · show fits .boolean (.int (ev_u3 ee r i y.toNatClampNeg (v &&& 1) r i k)) = true
          rw [sd_u3_on]
          by_cases z : k = y.toNatClampNeg
          · rw [if_pos z]; exact sd_fit1 _
          · rw [if_neg z]; exact hbf k hk
      · cases hev
    · cases hev
  · -- aastore
    rw [sd_k7e (by decide) (by decide) (by decide) (by decide) (by decide)] at hck
    simp only [sd_k7a, Bool.and_eq_true] at hck
    have el := Nat.eq_of_beq_eq_true hck.2
    subst el
    split at hev
    · rename_i r' i' y r i rest
      split at hev
      · rename_i k hkn
        have hQ := sd_bif hev
        clear hev
        obtain ⟨hc, hev⟩ := hQ
        simp only [Bool.and_eq_true] at hc
        obtain ⟨hr0, hr1⟩ := sd_ln6 (r := r) (by rw [hkn]; show 5 < 6; decide)
        have er' := Nat.eq_of_beq_eq_true hc.2
        have hir : sd_ir r y.toNatClampNeg = true := by unfold sd_ir; simp only [hkn]
        have hb2 : y.toNatClampNeg < sd_lz r := by unfold sd_lz; rw [hkn]; exact sd_in_lt hc.1
        have elr : sd_lr r y.toNatClampNeg = ev_le r := by unfold sd_lr; simp only [hkn]
        have hkr := sd_lr_kr hr0 hr1 hir hb2
        rw [elr, ← er'] at hkr
        obtain ⟨vs0, rfl, hg', hs0⟩ := hs.consK hkr
        obtain ⟨vs1, rfl, hs1⟩ := hs0.consI
        obtain ⟨vs', rfl, hg, hs'⟩ := hs1.consK (sd_kr2 hr0)
        have ha := hg.2.2.2.2 hr0
        have hcell := sd_l5 (sd_lcl hR ha) hkn
        have hlt := sd_in_lt hc.1
        have h0 : ¬ y < 0 := fun q => sd_in_vp hc.1 (Or.inl q)
        have fin : ∀ H1 : Heap, ∀ kz : Nat, kz = (if r = 207 then 4 else 6) → H1[sd_ad g r i]? = some ((arrV (g.2.2.1 kz) k (fun k => sd_lu g (w, t, ee, q) r i k)).setSlot y.toNatClampNeg (.ref (sd_ad g r' i'))) → H1.size = H.size → (∀ p, p ≠ sd_ad g r i → H1[p]? = H[p]?) → ∀ sl' : Nat, W p l e R s m args below meth c H1 (locs ++ [⟨sd_ad g r i, sl'⟩]) cl sl Q (F0 m (pc + 1) vl vs') := by
          intro H1 kz hkz e1 z oq sl'
          refine kk hev hl hs' (hS.put z oq (sd_ad_gl hr0)) (hR.lputr ha (by rw [elr, ← er']; exact hg') z oq (sd_l5' hkn ?_))
          rw [e1, arrV_store, ← hkz]
          congr 2
          funext j
          show (if j = y.toNatClampNeg then Value.ref (sd_ad g r' i') else sd_lu g (w, t, ee, q) r i j) = _
          rw [sd_lu_n3]
          by_cases z : j = y.toNatClampNeg
          · rw [if_pos z, if_pos z, elr, er']
          · rw [if_neg z, if_neg z]
        rcases sd_k207 r (by omega) (by rw [hkn]) with ⟨z, -⟩ | ⟨z, -⟩
        · rw [if_pos z] at hcell
          have hr2 : r' = 201 := by rw [er', z]; rfl
          obtain ⟨qq, hq, cellV, g1, g2, g3, -⟩ := sd_l0 (sd_lcl hR (hg'.2.2.2.2 (by omega))) (a := 11) (by rw [hr2]; rfl)
          have hq8 : qq = (RX11, TX11, 21) := by cases hq; rfl
          subst hq8
          have hcls := (hXs.1.1 11 _ hq).2
          obtain ⟨kA, comp, k1, k2, k3, -⟩ := (hXs.1.2 3 _ rfl).2
          have hcomp : comp = g.2.1.1 11 := Option.some.inj (k3.symm.trans hcls.1)
          subst hcomp
          obtain ⟨kC, hkC, -⟩ := hcls.2
          exact W.aast hx hb hcell (fun q h => by cases h) (fun h => by cases h) k1 k2 rfl hkC ⟨h0, by show _ < (arrV _ _ _).slots.size; rw [arrV_size]; exact hlt⟩ g1 (fun q h => by rw [g3] at h; cases h) (by rw [g2]; exact hkC) (by rw [g2]; exact va_assign hcls) rfl rfl (sd_is_eq hck.1) fun H1 e1 z2 oq => fin H1 4 (by rw [if_pos z]) e1 z2 oq _
        · rw [if_neg (by omega)] at hcell
          have hr2 : r' = 100 := by rw [er', z]; rfl
          subst hr2
          obtain ⟨cellV, g1, g2, g3, -⟩ := (hXs.2.2.2.1 i' (hg'.2.1 (Or.inl rfl))).1.kept hS.2.1
          have hcls := (hXs.1.1 13 _ rfl).2
          obtain ⟨kA, comp, k1, k2, k3, -⟩ := (hXs.1.2 5 _ rfl).2
          have hcomp : comp = g.2.1.1 13 := Option.some.inj (k3.symm.trans hcls.1)
          subst hcomp
          have hcv : g.2.1.1 13 = cellV.cls := Option.some.inj (hcls.1.symm.trans g3)
          obtain ⟨kC, hkC, -⟩ := hcls.2
          exact W.aast hx hb hcell (fun q h => by cases h) (fun h => by cases h) k1 k2 rfl hkC ⟨h0, by show _ < (arrV _ _ _).slots.size; rw [arrV_size]; exact hlt⟩ g1 (fun q h => by rw [h] at g2; cases g2) (by rw [← hcv]; exact hkC) (by rw [← hcv]; exact va_assign hcls) rfl rfl (sd_is_eq hck.1) fun H1 e1 z2 oq => fin H1 6 (by rw [if_neg (by omega)]) e1 z2 oq _
      · cases hev
    · cases hev
  · -- arraylength
    rw [sd_k7e (by decide) (by decide) (by decide) (by decide) (by decide)] at hck
    simp only [sd_k7a, Bool.and_eq_true] at hck
    have el := Nat.eq_of_beq_eq_true hck.2
    subst el
    have hck := hck.1
    split at hev
    · rename_i r i rest
      split at hev
      · rename_i k hkn
        obtain ⟨hr0, hr1⟩ := sd_ln6 (r := r) (by rw [hkn]; show 1 < 6; decide)
        obtain ⟨vs', rfl, hg, hs'⟩ := hs.consK (sd_kr2 hr0)
        have hcell := sd_l1 (sd_lcl hR (hg.2.2.2.2 hr0)) hkn
        exact W.alen (n := Int32.ofNat k) hx hb hcell (hArr.1 _ _) (by rw [arrV_size] <;> rfl) rfl rfl (sd_is_eq hck) (kk hev hl ⟨rfl, hs'⟩ hS hR)
      · rename_i k hkn
        obtain ⟨hr0, hr1⟩ := sd_ln6 (r := r) (by rw [hkn]; show 2 < 6; decide)
        obtain ⟨vs', rfl, hg, hs'⟩ := hs.consK (sd_kr2 hr0)
        obtain ⟨hcell, h199, -⟩ := sd_l2 (sd_lcl hR (hg.2.2.2.2 hr0)) hkn
        have h199 : ee 199 i 0 = Int32.ofNat (ee 199 i 0).toNatClampNeg := h199
        rw [h199] at hev
        exact W.alen (n := Int32.ofNat (ee 199 i 0).toNatClampNeg) hx hb hcell (hArr.2.1 _ _) (by rw [arrV_size] <;> rfl) rfl rfl (sd_is_eq hck) (kk hev hl ⟨rfl, hs'⟩ hS hR)
      · rename_i k hkn
        have hr := (sd_lnx (k := k)).2.2.1 hkn
        subst hr
        obtain ⟨vs', rfl, hg, hs'⟩ := hs.consR (by decide)
        obtain ⟨hxx, hlt⟩ := hXs.2.2.2.2.2.2.2.2.2.2
        have hL : d 104 0 0 = Int32.ofNat g.2.2.2.2.2.2.2.1 := hR.2.2.2.2.1
        rw [hL] at hev
        exact va_slen hx hb hxx (Nat.lt_of_lt_of_le hlt C0.2.2.2.2.2.2.2.2.1) (show ¬ sd_A g g.2.2.2.2.2.2.1 from Nat.not_le.mpr hlt) hS (sd_is_eq hck) (kk hev hl ⟨rfl, hs'⟩ hS hR)
      · cases hev
    · cases hev
  · -- digits
    rw [sd_k7e (by decide) (by decide) (by decide) (by decide) (by decide)] at hck
    simp only [sd_k7a, Bool.and_eq_true] at hck
    obtain ⟨hd, hlen, ha, hb3, hw⟩ := hck
    have el := Nat.eq_of_beq_eq_true hlen
    subst el
    have ea := Nat.eq_of_beq_eq_true ha
    subst ea
    have hb3 : b < 2 := Nat.le_of_ble_eq_true hb3
    have hZ := ((hXs.2.2.2.2.1 (5 + b) (by omega)).2 (by omega)).1
    have hk2 : W p l e R s m args below meth c H locs cl sl Q (F0 m (pc + 3) vl (.ref (g.2.2.2.2.2.1 (5 + b)) :: vs)) := kk hev hl ⟨sd_vr (sd_gd5 hb3) (Or.inr (Or.inl rfl)), hs⟩ hS hR
    rcases sd_wn_use hts hXs hw with ⟨-, hl2⟩ | ⟨-, _, hl2⟩
    · exact va_gets hx hb hZ hS hown hl2 (fun _ h => h) (sd_is_eq hd) hk2
    · exact va_getsN hx hb hZ hS hown hl2 (fun _ h => h) (sd_is_eq hd) hk2
  · -- null
    rw [sd_k7e (by decide) (by decide) (by decide) (by decide) (by decide)] at hck
    simp only [sd_k7a, Bool.and_eq_true] at hck
    have el := Nat.eq_of_beq_eq_true hck.2
    subst el
    exact lv_null hx hb (sd_is_eq hck.1) (kk hev hl ⟨sd_v109, hs⟩ hS hR)
  · -- new
    rw [sd_k7e (by decide) (by decide) (by decide) (by decide) (by decide)] at hck
    simp only [sd_k7a, Bool.and_eq_true, decide_eq_true_eq] at hck
    obtain ⟨hd, hlen, hkn, hr0, hr1, hq⟩ := hck
    have el := Nat.eq_of_beq_eq_true hlen
    subst el
    cases hq9 : vwCl[a]? with
    | none => rw [hq9] at hq; cases hq
    | some qq =>
      rw [hq9] at hq
      exact sd_lnewO C0 hK hq9 (sd_is_eq hd) (sd_at_in (show sd_at _ (.classLink _ _ qq.1) = true from hq)) hkn (Nat.le_of_ble_eq_true hr0) (Nat.le_of_ble_eq_true hr1) hev hl hs hS hR
  · -- newarray
    rw [sd_k7e (by decide) (by decide) (by decide) (by decide) (by decide)] at hck
    simp only [sd_k7a, Bool.and_eq_true] at hck
    obtain ⟨hd, hlen, h0, h4, hr0, hr1, hby⟩ := hck
    have el := Nat.eq_of_beq_eq_true hlen
    subst el
    have hr0 : 199 < b := Nat.le_of_ble_eq_true hr0
    have hr1 := Nat.le_of_ble_eq_true hr1
    split at hev
    · rename_i y rest
      have hQ := sd_bif hev
      clear hev
      obtain ⟨hc, hev⟩ := hQ
      simp only [Bool.and_eq_true, Bool.not_eq_true', decide_eq_false_iff_not] at hc
      have hk1 := Nat.eq_of_beq_eq_true hc.2
      obtain ⟨vs', rfl, hs'⟩ := hs.consI
      cases ha2 : Nat.beq a 2 with
      | true =>
        rw [ha2] at hev
        have hQ := sd_bif hev
        clear hev
        obtain ⟨hc3, hev⟩ := hQ
        have ea := Nat.eq_of_beq_eq_true ha2
        subst ea
        have hle := Nat.le_of_ble_eq_true hc3
        have hkn : ev_ln b = (2, (ev_ln b).2) := Prod.ext hk1 rfl
        have hy : y = Int32.ofNat y.toNatClampNeg := (sd_clamp hc.1).symm
        refine sd_lnewA C0 hK (N := y.toNatClampNeg) (Nat.le_of_ble_eq_true h0) (Nat.le_of_ble_eq_true h4) (sd_is_eq hd) hr0 hr1 hc.1 rfl (by omega) (fun r' i' k _ hne => by rw [sd_u3_off k (fun z => hne z.2), sd_w3_off k (fun z => hne z.2)]) (fun H1 e1 => sd_l2' hkn ?_) hev hl hs' hS hR
        have h8 : ev_u3 (ev_w3 ee b w (fun _ => 0)) 199 w 0 y 199 w 0 = y := by rw [sd_u3_on, if_pos rfl]
        have h9 : ∀ k, ev_u3 (ev_w3 ee b w (fun _ => 0)) 199 w 0 y b w k = 0 := fun k => by rw [sd_u3_off k (fun z => by omega), sd_w3_on]
        show H1[sd_ad g b w]? = some (arrV (g.2.2.1 2) (ev_u3 (ev_w3 ee b w (fun _ => 0)) 199 w 0 y 199 w 0).toNatClampNeg (fun k => .int (ev_u3 (ev_w3 ee b w (fun _ => 0)) 199 w 0 y b w k))) ∧ ev_u3 (ev_w3 ee b w (fun _ => 0)) 199 w 0 y 199 w 0 = Int32.ofNat (ev_u3 (ev_w3 ee b w (fun _ => 0)) 199 w 0 y 199 w 0).toNatClampNeg ∧ ∀ k, k < (ev_u3 (ev_w3 ee b w (fun _ => 0)) 199 w 0 y 199 w 0).toNatClampNeg → fits .byte (.int (ev_u3 (ev_w3 ee b w (fun _ => 0)) 199 w 0 y b w k)) = true
        simp only [h8, h9]
        exact ⟨e1, hy, fun _ _ => rfl⟩
      | false =>
        rw [ha2] at hev
        have hQ := sd_bif hev
        clear hev
        obtain ⟨hc3, hev⟩ := hQ
        have hN := Nat.eq_of_beq_eq_true hc3
        have hkn : ev_ln b = (a, (ev_ln b).2) := Prod.ext hk1 rfl
        have h0' : 0 < a := Nat.le_of_ble_eq_true h0
        have h4' : a < 4 := Nat.le_of_ble_eq_true h4
        have ha3 : a = 1 ∨ a = 3 := by
          have : a ≠ 2 := fun z => by rw [z] at ha2; cases ha2
          omega
        have h9 : ∀ k, ev_w3 ee b w (fun _ => 0) b w k = 0 := fun k => by rw [sd_w3_on]
        refine sd_lnewA C0 hK (N := (ev_ln b).2) h0' h4' (sd_is_eq hd) hr0 hr1 hc.1 hN (Nat.le_of_ble_eq_true hby) (fun r' i' k _ hne => sd_w3_off k (fun z => hne z.2)) (fun H1 e1 => ?_) hev hl hs' hS hR
        rcases ha3 with z | z
        · subst z
          refine sd_l1' hkn ?_
          show H1[sd_ad g b w]? = some (arrV (g.2.2.1 1) (ev_ln b).2 (fun k => .int (ev_w3 ee b w (fun _ => 0) b w k)))
          simp only [h9]
          exact e1
        · subst z
          refine sd_l3' hkn ?_
          show H1[sd_ad g b w]? = some (arrV (g.2.2.1 3) (ev_ln b).2 (fun k => .int (ev_w3 ee b w (fun _ => 0) b w k))) ∧ ∀ k, k < (ev_ln b).2 → fits .boolean (.int (ev_w3 ee b w (fun _ => 0) b w k)) = true
          simp only [h9]
          exact ⟨e1, fun _ _ => rfl⟩
    · cases hev
  · -- anewarray
    rw [sd_k7e (by decide) (by decide) (by decide) (by decide) (by decide)] at hck
    simp only [sd_k7a, Bool.and_eq_true, Bool.or_eq_true] at hck
    obtain ⟨hd, hlen, hor⟩ := hck
    have el := Nat.eq_of_beq_eq_true hlen
    subst el
    split at hev
    · rename_i y rest
      have hQ := sd_bif hev
      clear hev
      obtain ⟨hc, hev⟩ := hQ
      simp only [Bool.and_eq_true, Bool.not_eq_true', decide_eq_false_iff_not] at hc
      have hk1 := Nat.eq_of_beq_eq_true hc.2.1
      have hN := Nat.eq_of_beq_eq_true hc.2.2
      obtain ⟨vs', rfl, hs'⟩ := hs.consI
      have hkn : ev_ln b = (5, (ev_ln b).2) := Prod.ext hk1 rfl
      rcases hor with ⟨hb7, hw⟩ | ⟨hb7, hw⟩
      · have eb := Nat.eq_of_beq_eq_true hb7
        exact sd_lnewR C0 hK (kk := 4) (N := (ev_ln b).2) (sd_is_eq hd) (sd_at_in hw) hkn (by omega) (by omega) ⟨3, rfl⟩ (by rw [if_pos eb]) (by decide +kernel) hc.1 hN (by rw [eb]; decide) hev hl hs' hS hR
      · have eb := Nat.eq_of_beq_eq_true hb7
        exact sd_lnewR C0 hK (kk := 6) (N := (ev_ln b).2) (sd_is_eq hd) (sd_at_in hw) hkn (by omega) (by omega) ⟨5, rfl⟩ (by rw [if_neg (by omega)]) (by decide +kernel) hc.1 hN (by rw [eb]; decide) hev hl hs' hS hR
    · cases hev
  · -- clone
    rw [sd_k7e (by decide) (by decide) (by decide) (by decide) (by decide)] at hck
    simp only [sd_k7a, Bool.and_eq_true] at hck
    obtain ⟨hd, hlen, hw, hf1, hf2⟩ := hck
    have el := Nat.eq_of_beq_eq_true hlen
    subst el
    split at hev
    · rename_i r i rest
      have hQ := sd_bif hev
      clear hev
      obtain ⟨hc, hev⟩ := hQ
      simp only [Bool.and_eq_true] at hc
      have er := Nat.eq_of_beq_eq_true hc.1
      subst er
      obtain ⟨vs', rfl, hg, hs'⟩ := hs.consK (sd_kr2 (by decide))
      exact sd_clone C0 hK (sd_is_eq hd) (sd_at_in hw) (Nat.le_of_ble_eq_true hf1) (Nat.le_of_ble_eq_true hf2) (hg.2.2.2.2 (by decide)) (Nat.le_trans (sd_wdc hs') (Nat.le_of_ble_eq_true hc.2.1)) hev hl hs' hS hR
    · cases hev
  · -- checkcast
    rw [sd_k7e (by decide) (by decide) (by decide) (by decide) (by decide)] at hck
    simp only [sd_k7a, Bool.and_eq_true] at hck
    obtain ⟨hd, hlen, hw⟩ := hck
    have el := Nat.eq_of_beq_eq_true hlen
    subst el
    split at hev
    · rename_i r i rest
      have hQ := sd_bif hev
      clear hev
      obtain ⟨hc, hev⟩ := hQ
      have er := Nat.eq_of_beq_eq_true hc
      subst er
      obtain ⟨vs', rfl, hg, hs'⟩ := hs.consK (sd_kr2 (by decide))
      have hcell := (sd_l2 (sd_lcl hR (hg.2.2.2.2 (by decide))) (n := 0) rfl).1
      have hnm : s.vm.findClass "[B" = some (g.2.2.1 2) := va_nm_byte (hXs.1.2 1 _ rfl).2
      have kz := kk (vs := .ref (sd_ad g 214 i) :: vs') hev hl ⟨sd_vr hg (sd_kr2 (by decide)), hs'⟩ hS hR
      intro T hT X
      obtain ⟨vm', X', stp⟩ := X.checkcastYes hx hown (hts _ (sd_at_in hw)) (by rw [hT]; exact hcell) rfl hnm (va_asg _ _) (g := F0 m pc vl (.ref (sd_ad g 214 i) :: vs')) rfl rfl (by rw [hb]; exact sd_is_eq hd)
      obtain ⟨t1, a1, b1⟩ := kz (T.setVm vm') hT X'
      exact ⟨t1, stp t1 a1, b1⟩
    · cases hev
  · -- arraycopy
    rw [sd_k7e (by decide) (by decide) (by decide) (by decide) (by decide)] at hck
    simp only [sd_k7a, Bool.and_eq_true] at hck
    obtain ⟨hd, hlen, hw, hf1, hf2⟩ := hck
    have el := Nat.eq_of_beq_eq_true hlen
    subst el
    split at hev
    · rename_i k dp r2 i2 sp r1 i1 rest
      have hQ := sd_bif hev
      clear hev
      obtain ⟨hc, hev⟩ := hQ
      simp only [Bool.and_eq_true, Bool.not_eq_true', decide_eq_false_iff_not] at hc
      obtain ⟨c1, c2, c3, c4⟩ := hc
      obtain ⟨v1, rfl, hs1⟩ := hs.consI
      obtain ⟨v2, rfl, hs2⟩ := hs1.consI
      split at hev
      · rename_i z2 hk2
        obtain ⟨hr0, hr1⟩ := sd_ln6 (r := r2) (by rw [hk2]; show 2 < 6; decide)
        obtain ⟨v3, rfl, hg2, hs3⟩ := hs2.consK (sd_kr2 hr0)
        obtain ⟨v4, rfl, hs4⟩ := hs3.consI
        have ha2 := hg2.2.2.2.2 hr0
        obtain ⟨hcell2, h199, hbf2⟩ := sd_l2 (sd_lcl hR ha2) hk2
        have hcell2 : H[sd_ad g r2 i2]? = some (arrV (g.2.2.1 2) (ee 199 i2 0).toNatClampNeg (fun k => .int (ee r2 i2 k))) := hcell2
        have hbf2 : ∀ k, k < (ee 199 i2 0).toNatClampNeg → fits .byte (.int (ee r2 i2 k)) = true := hbf2
        have fin : ∀ (f : Nat → Int32) (N : Nat), (∀ j, j < N → fits .byte (.int (f j)) = true) → sp.toNatClampNeg + k.toNatClampNeg ≤ N → ∀ (H1 : Heap), H1[sd_ad g r2 i2]? = some (arrV (g.2.2.1 2) (ee 199 i2 0).toNatClampNeg (fun j => .int (va_cpy f (ee r2 i2) sp.toNatClampNeg dp.toNatClampNeg k.toNatClampNeg j))) → sd_lc g (w, t, ev_w3 ee r2 i2 (va_cpy f (ee r2 i2) sp.toNatClampNeg dp.toNatClampNeg k.toNatClampNeg), q) r2 i2 H1 := by
          intro f N hf hN H1 e1
          refine sd_l2' hk2 ?_
          have h8 : ev_w3 ee r2 i2 (va_cpy f (ee r2 i2) sp.toNatClampNeg dp.toNatClampNeg k.toNatClampNeg) 199 i2 0 = ee 199 i2 0 := sd_w3_off 0 (fun z => by omega)
          have h9 : ∀ j, ev_w3 ee r2 i2 (va_cpy f (ee r2 i2) sp.toNatClampNeg dp.toNatClampNeg k.toNatClampNeg) r2 i2 j = va_cpy f (ee r2 i2) sp.toNatClampNeg dp.toNatClampNeg k.toNatClampNeg j := fun j => sd_w3_on j
          show H1[sd_ad g r2 i2]? = some (arrV (g.2.2.1 2) (ev_w3 ee r2 i2 (va_cpy f (ee r2 i2) sp.toNatClampNeg dp.toNatClampNeg k.toNatClampNeg) 199 i2 0).toNatClampNeg (fun j => .int (ev_w3 ee r2 i2 (va_cpy f (ee r2 i2) sp.toNatClampNeg dp.toNatClampNeg k.toNatClampNeg) r2 i2 j))) ∧ ev_w3 ee r2 i2 (va_cpy f (ee r2 i2) sp.toNatClampNeg dp.toNatClampNeg k.toNatClampNeg) 199 i2 0 = Int32.ofNat (ev_w3 ee r2 i2 (va_cpy f (ee r2 i2) sp.toNatClampNeg dp.toNatClampNeg k.toNatClampNeg) 199 i2 0).toNatClampNeg ∧ ∀ j, j < (ev_w3 ee r2 i2 (va_cpy f (ee r2 i2) sp.toNatClampNeg dp.toNatClampNeg k.toNatClampNeg) 199 i2 0).toNatClampNeg → fits .byte (.int (ev_w3 ee r2 i2 (va_cpy f (ee r2 i2) sp.toNatClampNeg dp.toNatClampNeg k.toNatClampNeg) r2 i2 j)) = true
          simp only [h8, h9]
          exact ⟨e1, h199, sd_cpyfit hf hbf2 hN⟩
        split at hev
        · rename_i z1 hk1
          obtain ⟨hq0, hq1⟩ := sd_ln6 (r := r1) (by rw [hk1]; show 2 < 6; decide)
          obtain ⟨v5, rfl, hg1, hs5⟩ := hs4.consK (sd_kr2 hq0)
          have hQ := sd_bif hev
          clear hev
          obtain ⟨hc, hev⟩ := hQ
          simp only [Bool.and_eq_true] at hc
          obtain ⟨hcell1, -, hbf1⟩ := sd_l2 (sd_lcl hR (hg1.2.2.2.2 hq0)) hk1
          have hle := Nat.le_of_ble_eq_true hc.1
          refine sd_copyT C0 (ty := .byte) (n0 := (ee 199 i1 0).toNatClampNeg) (f := ee r1 i1) (h := ee r2 i2) (sd_is_eq hd) (sd_at_in hw) (Nat.le_of_ble_eq_true hf1) (Nat.le_of_ble_eq_true hf2) (Or.inr (Or.inl rfl)) hcell1 (hArr.2.1 _ _) (fun q => by cases q) (by rw [arrV_size]; exact Nat.le_refl _) (fun j hj => by rw [arrV_read _ _ hj]) hbf1 hcell2 hArr.2.1 hl.1 hS (sd_ad_gl hr0) (Nat.le_trans (sd_wdc hs5) (Nat.le_of_ble_eq_true c3)) c2 c1 c4 hle (Nat.le_of_ble_eq_true hc.2) fun H1 locs1 e1 z1 oq hS1 => ?_
          exact kk hev hl hs5 hS1 (hR.lputw ha2 z1 oq (fin _ _ hbf1 hle H1 e1))
        · rename_i z1 hk1
          have er := (sd_lnx (k := z1)).1 hk1
          subst er
          obtain ⟨v5, rfl, hg1, hs5⟩ := hs4.consR (by decide)
          have hQ := sd_bif hev
          clear hev
          obtain ⟨hc, hev⟩ := hQ
          simp only [Bool.and_eq_true] at hc
          have hi1 := hg1.2.1 (Or.inr rfl)
          obtain ⟨scr, t1, t2, t3, t4, -, t5, t7⟩ := (hXs.2.2.2.1 i1 hi1).2.2.2
          have hc0 : H[g.2.2.2.2.1 i1]? = some scr := by rw [hS.2.1 _ (Array.getElem?_eq_some_iff.mp t1).1 t7]; exact t1
          have hle := Nat.le_of_ble_eq_true hc.1
          have hbf1 : ∀ j, j < ev_sl i1 → fits .byte (.int (ev_sb i1 j)) = true := fun j hj => sd_sbfit i1 (sd_so46 hi1) j (by have := sd_sl40 i1 (sd_so46 hi1); omega)
          refine sd_copyT C0 (ty := .byte) (n0 := ev_sl i1) (f := ev_sb i1) (h := ee r2 i2) (sd_is_eq hd) (sd_at_in hw) (Nat.le_of_ble_eq_true hf1) (Nat.le_of_ble_eq_true hf2) (Or.inr (Or.inl rfl)) hc0 t2 t3 t4 t5 hbf1 hcell2 hArr.2.1 hl.1 hS (sd_ad_gl hr0) (Nat.le_trans (sd_wdc hs5) (Nat.le_of_ble_eq_true c3)) c2 c1 c4 hle (Nat.le_of_ble_eq_true hc.2) fun H1 locs1 e1 z1 oq hS1 => ?_
          exact kk hev hl hs5 hS1 (hR.lputw ha2 z1 oq (fin _ _ hbf1 hle H1 e1))
        · cases hev
      · rename_i n2 hk2
        have hQ := sd_bif hev
        clear hev
        obtain ⟨hc, hev⟩ := hQ
        simp only [Bool.and_eq_true] at hc
        have er := Nat.eq_of_beq_eq_true hc.1
        subst er
        obtain ⟨hr0, hr1⟩ := sd_ln6 (r := r1) (by rw [hk2]; show 1 < 6; decide)
        obtain ⟨v3, rfl, hg2, hs3⟩ := hs2.consK (sd_kr2 hr0)
        obtain ⟨v4, rfl, hs4⟩ := hs3.consI
        obtain ⟨v5, rfl, hg1, hs5⟩ := hs4.consK (sd_kr2 hr0)
        have ha2 := hg2.2.2.2.2 hr0
        have hcell2 := sd_l1 (sd_lcl hR ha2) hk2
        have hcell1 := sd_l1 (sd_lcl hR (hg1.2.2.2.2 hr0)) hk2
        have hle := Nat.le_of_ble_eq_true hc.2.1
        refine sd_copyT C0 (ty := .int) (n0 := n2) (f := ee r1 i1) (h := ee r1 i2) (sd_is_eq hd) (sd_at_in hw) (Nat.le_of_ble_eq_true hf1) (Nat.le_of_ble_eq_true hf2) (Or.inl rfl) hcell1 (hArr.1 _ _) (fun q => by cases q) (by rw [arrV_size]; exact Nat.le_refl _) (fun j hj => by rw [arrV_read _ _ hj]) (fun _ _ => rfl) hcell2 hArr.1 hl.1 hS (sd_ad_gl hr0) (Nat.le_trans (sd_wdc hs5) (Nat.le_of_ble_eq_true c3)) c2 c1 c4 hle (Nat.le_of_ble_eq_true hc.2.2) fun H1 locs1 e1 z1 oq hS1 => ?_
        refine kk hev hl hs5 hS1 (hR.lputw ha2 z1 oq (sd_l1' hk2 ?_))
        rw [e1]
        congr 2
        funext j
        show Value.int _ = .int (ev_w3 ee r1 i2 _ r1 i2 j)
        rw [sd_w3_on]
      · rename_i n2 hk2
        have hQ := sd_bif hev
        clear hev
        obtain ⟨hc, hev⟩ := hQ
        simp only [Bool.and_eq_true] at hc
        have er := Nat.eq_of_beq_eq_true hc.1
        subst er
        obtain ⟨hr0, hr1⟩ := sd_ln6 (r := r1) (by rw [hk2]; show 3 < 6; decide)
        obtain ⟨v3, rfl, hg2, hs3⟩ := hs2.consK (sd_kr2 hr0)
        obtain ⟨v4, rfl, hs4⟩ := hs3.consI
        obtain ⟨v5, rfl, hg1, hs5⟩ := hs4.consK (sd_kr2 hr0)
        have ha2 := hg2.2.2.2.2 hr0
        obtain ⟨hcell2, hbf2⟩ := sd_l3 (sd_lcl hR ha2) hk2
        obtain ⟨hcell1, hbf1⟩ := sd_l3 (sd_lcl hR (hg1.2.2.2.2 hr0)) hk2
        have hle := Nat.le_of_ble_eq_true hc.2.1
        refine sd_copyT C0 (ty := .boolean) (n0 := n2) (f := ee r1 i1) (h := ee r1 i2) (sd_is_eq hd) (sd_at_in hw) (Nat.le_of_ble_eq_true hf1) (Nat.le_of_ble_eq_true hf2) (Or.inr (Or.inr rfl)) hcell1 (hArr.2.2.1 _ _) (fun q => by cases q) (by rw [arrV_size]; exact Nat.le_refl _) (fun j hj => by rw [arrV_read _ _ hj]) hbf1 hcell2 hArr.2.2.1 hl.1 hS (sd_ad_gl hr0) (Nat.le_trans (sd_wdc hs5) (Nat.le_of_ble_eq_true c3)) c2 c1 c4 hle (Nat.le_of_ble_eq_true hc.2.2) fun H1 locs1 e1 z1 oq hS1 => ?_
        have h9 : ∀ j, ev_w3 ee r1 i2 (va_cpy (ee r1 i1) (ee r1 i2) sp.toNatClampNeg dp.toNatClampNeg k.toNatClampNeg) r1 i2 j = va_cpy (ee r1 i1) (ee r1 i2) sp.toNatClampNeg dp.toNatClampNeg k.toNatClampNeg j := fun j => sd_w3_on j
        refine kk hev hl hs5 hS1 (hR.lputw ha2 z1 oq (sd_l3' hk2 ?_))
        show H1[sd_ad g r1 i2]? = some (arrV (g.2.2.1 3) n2 (fun j => .int (ev_w3 ee r1 i2 (va_cpy (ee r1 i1) (ee r1 i2) sp.toNatClampNeg dp.toNatClampNeg k.toNatClampNeg) r1 i2 j))) ∧ ∀ j, j < n2 → fits .boolean (.int (ev_w3 ee r1 i2 (va_cpy (ee r1 i1) (ee r1 i2) sp.toNatClampNeg dp.toNatClampNeg k.toNatClampNeg) r1 i2 j)) = true
        simp only [h9]
        exact ⟨e1, sd_cpyfit hbf1 hbf2 hle⟩
      · cases hev
    · cases hev
  · -- a call, with the model: an int
    have hck : sd_kcall mi pc a b len tb = true := hck
    have hQ := sd_cl_eq hev
    clear hev
    obtain ⟨hr, hev⟩ := hQ
    cases hcall : call (a, 0, (st.take b).reverse, [], 0, 0) (n, lk, d, w, t, ee, q) with
    | none => rw [hcall] at hev; cases hev
    | some tt =>
      obtain ⟨o1, μ1⟩ := tt
      rw [hcall] at hev
      match o1, hcall, hev with
      | .inl (some (.inl (.inl y))), hcall, hev =>
        have hev : ev_gh (call (x.toNatClampNeg, 0, ev_ga ((st.take b).reverse), [], 0, 0) μ1) μ1 (fun μ'' => K (pc + len) ls (ev_I y :: st.drop b) μ'' (cl + ev_mc a) (sl + ev_ms a)) = some (res, μz) := hev
        have hQ := sd_ghe hev
        clear hev
        obtain ⟨z, ν, -, hev⟩ := hQ
        exact sd_callsG C0 hK hP hck hr hcall (fun _ h => h.ghost) rfl hl0 hs0 hS hR0 hev
      | .inl none, _, hev => cases hev
      | .inl (some (.inl (.inr y))), _, hev => cases hev
      | .inl (some (.inr y)), _, hev => cases hev
      | .inr E, _, hev => cases hev
  · -- nothing
    have hck : sd_kcall mi pc a b len tb = true := hck
    have hQ := sd_cl_eq hev
    clear hev
    obtain ⟨hr, hev⟩ := hQ
    cases hcall : call (a, 0, (st.take b).reverse, [], 0, 0) (n, lk, d, w, t, ee, q) with
    | none => rw [hcall] at hev; cases hev
    | some tt =>
      obtain ⟨o1, μ1⟩ := tt
      rw [hcall] at hev
      match o1, hcall, hev with
      | .inl none, hcall, hev =>
        have hev : ev_gh (call (x.toNatClampNeg, 0, ev_ga ((st.take b).reverse), [], 0, 0) (μ1.1 + 1, μ1.2)) μ1 (fun μ'' => K (pc + len) ls (st.drop b) μ'' (cl + ev_mc a) (sl + ev_ms a)) = some (res, μz) := hev
        have hQ := sd_ghe hev
        clear hev
        obtain ⟨z, ν, -, hev⟩ := hQ
        exact sd_callsG C0 hK hP hck hr hcall (fun _ h => h.ghost) rfl hl0 hs0 hS hR0 hev
      | .inl (some y), _, hev => cases hev
      | .inr E, _, hev => cases hev
  · -- a double
    have hck : sd_kcall mi pc a b len tb = true := hck
    have hQ := sd_cl_eq hev
    clear hev
    obtain ⟨hr, hev⟩ := hQ
    cases hcall : call (a, 0, (st.take b).reverse, [], 0, 0) (n, lk, d, w, t, ee, q) with
    | none => rw [hcall] at hev; cases hev
    | some tt =>
      obtain ⟨o1, μ1⟩ := tt
      rw [hcall] at hev
      match o1, hcall, hev with
      | .inl (some (.inr (.inl y))), hcall, hev =>
        have hev : ev_gh (call (x.toNatClampNeg, 0, ev_ga ((st.take b).reverse), [], 0, 0) μ1) μ1 (fun μ'' => K (pc + len) ls (ev_D y :: st.drop b) μ'' (cl + ev_mc a) (sl + ev_ms a)) = some (res, μz) := hev
        have hQ := sd_ghe hev
        clear hev
        obtain ⟨z, ν, -, hev⟩ := hQ
        exact sd_callsG C0 hK hP hck hr hcall (fun _ h => h.ghost) rfl hl0 hs0 hS hR0 hev
      | .inl none, _, hev => cases hev
      | .inl (some (.inl y)), _, hev => cases hev
      | .inl (some (.inr (.inr y))), _, hev => cases hev
      | .inr E, _, hev => cases hev
  · -- a reference
    have hck : sd_kcall mi pc a b len tb = true := hck
    have hQ := sd_cl_eq hev
    clear hev
    obtain ⟨hr, hev⟩ := hQ
    cases hcall : call (a, 0, (st.take b).reverse, [], 0, 0) (n, lk, d, w, t, ee, q) with
    | none => rw [hcall] at hev; cases hev
    | some tt =>
      obtain ⟨o1, μ1⟩ := tt
      rw [hcall] at hev
      match o1, hcall, hev with
      | .inl (some (.inr (.inr (r, i)))), hcall, hev =>
        have hv9 : (bif Nat.beq r x.toNatClampNeg then K (pc + len) ls (ev_R x.toNatClampNeg i :: st.drop b) μ1 (cl + ev_mc a) (sl + ev_ms a) else none) = some (res, μz) := hev
        have hQ := sd_bif hv9
        obtain ⟨hc, hv⟩ := hQ
        have er := Nat.eq_of_beq_eq_true hc
        subst er
        exact sd_callsG C0 hK hP hck hr hcall (fun _ h => h) rfl hl0 hs0 hS hR0 hv
      | .inl none, _, hev => cases hev
      | .inl (some (.inl y)), _, hev => cases hev
      | .inl (some (.inr (.inl y))), _, hev => cases hev
      | .inr E, _, hev => cases hev
  · -- Object.<init>
    rw [sd_k7e (by decide) (by decide) (by decide) (by decide) (by decide)] at hck
    split at hev
    · rename_i r i rest
      have hQ := sd_bif hev
      clear hev
      obtain ⟨hc, hev⟩ := hQ
      simp only [sd_k7a, Bool.and_eq_true] at hck hc
      obtain ⟨hd, hlen, hw, hf1, hl20⟩ := hck
      have el := Nat.eq_of_beq_eq_true hlen
      subst el
      have hr : 199 < r := Nat.le_of_ble_eq_true hc.1
      obtain ⟨vs', rfl, hg, hs'⟩ := hs.consK (sd_kr2 hr)
      have h8 : ev_wd rest ≤ 8 := Nat.le_of_ble_eq_true hc.2
      have h9 := sd_wdc hs'
      have hl20 : 20 ≤ ev_lr mi := Nat.le_of_ble_eq_true hl20
      exact W.objInit (g := F0 m pc vl (.ref (sd_ad g r i) :: vs')) hx hb hown (hts _ (sd_at_in hw)) (hts _ (sd_any sd_oi_ok.1)) (hts _ (sd_any sd_oi_ok.2)) rfl (hl.1.trans hml.symm) rfl (sd_is_eq hd) (by rw [hrf]; exact Nat.le_of_ble_eq_true hf1) (by rw [hrl]; show 2 * 0 + _ + 12 ≤ _; omega)
        (kk hev hl hs' hS hR)
    · cases hev
  · -- the same
    rw [sd_k7e (by decide) (by decide) (by decide) (by decide) (by decide)] at hck
    simp only [sd_k7a, Bool.and_eq_true] at hck
    have el := Nat.eq_of_beq_eq_true hck.1
    subst el
    split at hev
    · rename_i r i r' i' rest
      have hQ := sd_bif hev
      clear hev
      obtain ⟨hc, hev⟩ := hQ
      simp only [Bool.and_eq_true] at hc
      have hr : 199 < r := Nat.le_of_ble_eq_true hc.1
      have hr' : 199 < r' := Nat.le_of_ble_eq_true hc.2
      obtain ⟨vs1, rfl, hg, hs1⟩ := hs.consK (sd_kr2 hr)
      obtain ⟨vs', rfl, hg', hs'⟩ := hs1.consK (sd_kr2 hr')
      refine lv_acmp_eq (rx := some (sd_ad g r' i')) (ry := some (sd_ad g r i)) hx hb (sd_jp_eq hck.2) (sd_jt pc b) (fun z => ?_) (fun z => ?_)
      · have z := Option.some.inj z
        rw [sd_adl hr', sd_adl hr] at z
        have : Nat.beq i i' = true := Nat.beq_eq.mpr (by omega)
        rw [this] at hev
        exact kk hev hl hs' hS hR
      · have : Nat.beq i i' = false := by
          cases y : Nat.beq i i' with
          | false => rfl
          | true =>
            have y := Nat.eq_of_beq_eq_true y
            exact absurd (by rw [sd_adl hr', sd_adl hr, y]) z
        rw [this] at hev
        exact kk hev hl hs' hS hR
    · cases hev
  · -- not the same
    rw [sd_k7e (by decide) (by decide) (by decide) (by decide) (by decide)] at hck
    simp only [sd_k7a, Bool.and_eq_true] at hck
    have el := Nat.eq_of_beq_eq_true hck.1
    subst el
    split at hev
    · rename_i r i r' i' rest
      have hQ := sd_bif hev
      clear hev
      obtain ⟨hc, hev⟩ := hQ
      simp only [Bool.and_eq_true] at hc
      have hr : 199 < r := Nat.le_of_ble_eq_true hc.1
      have hr' : 199 < r' := Nat.le_of_ble_eq_true hc.2
      obtain ⟨vs1, rfl, hg, hs1⟩ := hs.consK (sd_kr2 hr)
      obtain ⟨vs', rfl, hg', hs'⟩ := hs1.consK (sd_kr2 hr')
      refine lv_acmp_ne (rx := some (sd_ad g r' i')) (ry := some (sd_ad g r i)) hx hb (sd_jp_eq hck.2) (sd_jt pc b) (fun z => ?_) (fun z => ?_)
      · have : Nat.beq i i' = false := by
          cases y : Nat.beq i i' with
          | false => rfl
          | true =>
            have y := Nat.eq_of_beq_eq_true y
            exact absurd (by rw [sd_adl hr', sd_adl hr, y]) z
        rw [this] at hev
        exact kk hev hl hs' hS hR
      · have z := Option.some.inj z
        rw [sd_adl hr', sd_adl hr] at z
        have : Nat.beq i i' = true := Nat.beq_eq.mpr (by omega)
        rw [this] at hev
        exact kk hev hl hs' hS hR
    · cases hev
  · -- ifnull
    rw [sd_k7e (by decide) (by decide) (by decide) (by decide) (by decide)] at hck
    simp only [sd_k7a, Bool.and_eq_true] at hck
    have el := Nat.eq_of_beq_eq_true hck.1
    subst el
    split at hev
    · rename_i r i rest
      obtain ⟨v, vs', rfl, hv, hs'⟩ := hs.cons
      cases h9 : Nat.beq r 109 with
      | true =>
        rw [h9] at hev
        have er := Nat.eq_of_beq_eq_true h9
        subst er
        have e1 : v = .null := by
          rcases hv.2 with ⟨z, -⟩ | ⟨z, -⟩ | ⟨z, -⟩ | ⟨-, z⟩ | ⟨z, -⟩
          · unfold sd_kr at z; omega
          · omega
          · omega
          · exact z
          · omega
        subst e1
        exact lv_ifnullN hx hb (sd_jp_eq hck.2) (sd_jt pc b) (kk hev hl hs' hS hR)
      | false =>
        rw [h9] at hev
        have hQ := sd_bif hev
        clear hev
        obtain ⟨hc, hev⟩ := hQ
        have hkr : sd_kr r := by
          simp only [Bool.or_eq_true] at hc
          rcases hc with z | z
          · exact sd_kr1 (Nat.le_of_ble_eq_true z)
          · exact sd_kr2 (Nat.le_of_ble_eq_true z)
        have h2 := hv.kr hkr
        subst h2
        exact lv_ifnull hx hb (sd_jp_eq hck.2) (kk hev hl hs' hS hR)
    · cases hev
  · -- ifnonnull
    rw [sd_k7e (by decide) (by decide) (by decide) (by decide) (by decide)] at hck
    simp only [sd_k7a, Bool.and_eq_true] at hck
    have el := Nat.eq_of_beq_eq_true hck.1
    subst el
    split at hev
    · rename_i r i rest
      obtain ⟨v, vs', rfl, hv, hs'⟩ := hs.cons
      cases h9 : Nat.beq r 109 with
      | true =>
        rw [h9] at hev
        have er := Nat.eq_of_beq_eq_true h9
        subst er
        have e1 : v = .null := by
          rcases hv.2 with ⟨z, -⟩ | ⟨z, -⟩ | ⟨z, -⟩ | ⟨-, z⟩ | ⟨z, -⟩
          · unfold sd_kr at z; omega
          · omega
          · omega
          · exact z
          · omega
        subst e1
        exact lv_ifnonnullN hx hb (sd_jp_eq hck.2) (kk hev hl hs' hS hR)
      | false =>
        rw [h9] at hev
        have hQ := sd_bif hev
        clear hev
        obtain ⟨hc, hev⟩ := hQ
        have hkr : sd_kr r := by
          simp only [Bool.or_eq_true] at hc
          rcases hc with z | z
          · exact sd_kr1 (Nat.le_of_ble_eq_true z)
          · exact sd_kr2 (Nat.le_of_ble_eq_true z)
        have h2 := hv.kr hkr
        subst h2
        exact lv_ifnonnull hx hb (sd_jp_eq hck.2) (sd_jt pc b) (kk hev hl hs' hS hR)
    · cases hev
  · -- dup_x1
    rw [sd_k7e (by decide) (by decide) (by decide) (by decide) (by decide)] at hck
    simp only [sd_k7a, Bool.and_eq_true] at hck
    have el := Nat.eq_of_beq_eq_true hck.2
    subst el
    split at hev
    · rename_i y r i rest
      obtain ⟨vs1, rfl, hs1⟩ := hs.consI
      obtain ⟨v, vs', rfl, hv, hs'⟩ := hs1.cons
      cases hr5 : Nat.beq r 105 with
      | true => rw [hr5] at hev; cases hev
      | false =>
        rw [hr5] at hev
        exact lv_dup_x1 hx hb (sd_is_eq hck.1) rfl hv.cat1 (kk hev hl ⟨rfl, hv, rfl, hs'⟩ hS hR)
    · cases hev
  · -- areturn
    have hck : (sd_is (sd_cc mi) pc .areturn 1 && (Nat.blt mi 282 && (match sd_ret mi with
      | some (.object _) => true
      | some (.array _) => true
      | _ => false))) = true := hck
    split at hev
    · rename_i r i
      have hQ := sd_bif hev
      clear hev
      obtain ⟨hok, hev⟩ := hQ
      have hr : 199 < r := Nat.le_of_ble_eq_true hok
      cases hev
      simp only [Bool.and_eq_true] at hck
      obtain ⟨hd, h282, hty⟩ := hck
      obtain ⟨v1, rfl, hg, hs1⟩ := hs.consK (sd_kr2 hr)
      have := hs1.nil
      subst this
      have h282 : mi < 282 := Nat.le_of_ble_eq_true h282
      rcases hX with ⟨-, hret, hQ⟩ | ⟨q, -⟩
      · rw [hQ]
        obtain ⟨ty, h1, h2⟩ : ∃ ty, sd_ret mi = some ty ∧ ((∃ n, ty = .object n) ∨ ∃ t, ty = .array t) := by
          split at hty
          · rename_i n q; exact ⟨_, q, Or.inl ⟨_, rfl⟩⟩
          · rename_i n q; exact ⟨_, q, Or.inr ⟨_, rfl⟩⟩
          · cases hty
        exact W.widen hcs.1 hcs.2 (vx_ret (W.aret hx hb (hret.trans h1) h2 (Or.inr ⟨_, rfl⟩) (fun t ht _ => ⟨⟨_, rfl, sd_vr hg (sd_kr2 hr)⟩, by rw [ht]; exact hR, hS.F ht⟩) hS.2.2 (sd_is_eq hd) (hlocks := hlk)))
      · omega
    · cases hev
  · cases hev
end SD7J
/-! SOUNDNESS, 13: the whole run of a method -/
def sd_chk (mi pc : Nat) (i : ev_C) : Bool := match i with
  | (_, gp, h, a, b, len, x, tb) => match gp with
    | 0 => sd_k0 mi pc h a len x tb
    | 1 => sd_k1 mi pc h len
    | 2 => sd_k2 mi pc h a b len tb
    | 3 => sd_k3 mi pc h a b len x tb
    | 4 => sd_k4 mi pc h a b len tb
    | 5 => sd_k5 mi pc h len
    | 6 => sd_k6 mi pc h len
    | 7 => sd_k7 mi pc h a b len x tb
    | _ => true
def sd_ckm (m : Nat) : Bool := (List.range (sd_sz m)).all fun pc => (ev_code m pc).all (sd_chk m pc)
