section SDC
variable {p : Program} {l : Launch} {e : Env} {R : Room} {s : State} {m : MethodId} {args : Array Value} {below : List Frame} {meth : Method} {c : Code} {Q : State → Prop} {g : sd_G} {mi : Nat} {res : ev_O} {μz : ev_M} {K : ev_K}
theorem sd_nil1 {g : sd_G} {n : sd_N} {x : Value} {vs : List Value} (h : sd_s g n [] vs) : vs = [] := h.nil
/-- a row of ints is copied to -/
theorem sd_R.cpy {n : Nat} {lk : Nat → Nat → Nat → Bool} {d : Nat → Nat → Nat → Int32} {o : ev_W} {H H1 : Heap} {r i N : Nat} {f : Nat → Int32} (h : sd_R g (n, lk, d, o) H) (hkn : ev_kn r = (1, N)) (ha : sd_al (n, o.1, o.2.1) r i) (hz : H1.size = H.size) (oq : ∀ q : Nat, q ≠ sd_ad g r i → H1[q]? = H[q]?)
    (hc : H1[sd_ad g r i]? = some (arrV (g.2.2.1 1) N (fun j => .int (f j)))) : sd_R g (n, lk, ev_w3 d r i f, o) H1 := by
  have hr : r < 62 := sd_kn62 (by rw [hkn]; show 1 < 6; decide)
  refine h.put hr ha rfl hz oq (fun _ _ _ _ => rfl) (fun _ _ k h => sd_w3_off k h) rfl (sd_cell' hkn (by decide) (by decide) ?_) (fun k a b c => h.lks hr ha k a b c)
  rw [hc]
  congr 2
  funext k
  show Value.int (f k) = .int (ev_w3 d r i f r i k)
  rw [sd_w3_on]
theorem sd_g4 (C : sd_cx p l R s m args meth c g mi) (hK : sd_K p l e R s m args below meth c Q g mi res μz K) {call : ev_F → ev_M → ev_T} (hP : sd_P l g call) (hX : sd_E p l e R s m args below meth c Q g mi res μz) {pc h a b len : Nat} {tb : List Nat} (hck : sd_k4 mi pc h a b len tb = true) {ls st : List ev_V} {μ : ev_M} {cl sl : Nat} {H : Heap} {locs : List Loc} {vl : Array Slot} {vs : List Value}
    (hev : ev_g4 call mi h a b len tb pc ls st μ cl sl K = some (res, μz)) (hl : sd_l g (sd_nn μ) (ev_ml mi) ls vl) (hs : sd_s g (sd_nn μ) st vs) (hS : va_S (sd_A g) s.heap H locs) (hR : sd_R g μ H) (hcs : cl ≤ ev_mc mi ∧ sl ≤ ev_ms mi) : W p l e R s m args below meth c H locs cl sl Q (F0 m pc vl vs) := by
  have C0 := C
  obtain ⟨hx, hb, hml, hown, hts, hXs, hlk, htr, hz, ⟨hrf, hrl, hrc, hrs⟩, -⟩ := C
  have hArr := sd_arr hXs.1
  unfold ev_g4 at hev
  unfold sd_k4 at hck
  split at hev
  · -- new
    split at hev
    · rename_i x0 x1 mode r tl
      simp only [Bool.and_eq_true, decide_eq_true_eq] at hck
      obtain ⟨hd, hlen, hkn, h44, hq⟩ := hck
      have el := Nat.eq_of_beq_eq_true hlen
      subst el
      obtain ⟨n, lk, d, o⟩ := μ
      cases hq9 : vwCl[a]? with
      | none => rw [hq9] at hq; cases hq
      | some q =>
        rw [hq9] at hq
        exact sd_newO C0 hK hq9 (sd_is_eq hd) (sd_at_in (show sd_at _ (.classLink _ _ q.1) = true from hq)) hkn (Nat.le_of_ble_eq_true h44) hev hl hs hS hR
    · cases hev
  · -- newarray
    split at hev
    · rename_i x0 r mode tl
      simp only [Bool.and_eq_true, decide_eq_true_eq] at hck
      obtain ⟨hd, hlen, h0, h5, h44, hby⟩ := hck
      have el := Nat.eq_of_beq_eq_true hlen
      subst el
      split at hev
      · rename_i x rest
        obtain ⟨hc, hev⟩ := sd_bif hev
        simp only [Bool.and_eq_true, Bool.not_eq_true', decide_eq_false_iff_not] at hc
        obtain ⟨n, lk, d, o⟩ := μ
        obtain ⟨vs', rfl, hs'⟩ := hs.consI
        exact sd_newA C0 hK (N := (ev_kn r).2) (Nat.le_of_ble_eq_true h0) (Nat.le_of_ble_eq_true h5) (sd_is_eq hd) (Prod.ext (Nat.eq_of_beq_eq_true hc.2.1) rfl) (Nat.le_of_ble_eq_true h44) hc.1 (Nat.eq_of_beq_eq_true hc.2.2).symm (Nat.le_of_ble_eq_true hby) hev hl hs' hS hR
      · cases hev
    · cases hev
  · -- anewarray
    split at hev
    · rename_i x0 x1 r mode tl
      simp only [Bool.and_eq_true, decide_eq_true_eq] at hck
      obtain ⟨hd, hlen, hw, h44, hby⟩ := hck
      have el := Nat.eq_of_beq_eq_true hlen
      subst el
      split at hev
      · rename_i x rest
        obtain ⟨hc, hev⟩ := sd_bif hev
        simp only [Bool.and_eq_true, Bool.not_eq_true', decide_eq_false_iff_not] at hc
        obtain ⟨n, lk, d, o⟩ := μ
        obtain ⟨vs', rfl, hs'⟩ := hs.consI
        exact sd_newR C0 hK (N := (ev_kn r).2) (sd_is_eq hd) (sd_at_in hw) (Prod.ext (Nat.eq_of_beq_eq_true hc.2.1) rfl) (Nat.le_of_ble_eq_true h44) hc.1 (Nat.eq_of_beq_eq_true hc.2.2).symm (Nat.le_of_ble_eq_true hby) hev hl hs' hS hR
      · cases hev
    · cases hev
  · -- Object.<init>
    split at hev
    · rename_i r i rest
      obtain ⟨hc, hev⟩ := sd_bif hev
      simp only [Bool.and_eq_true] at hck hc
      obtain ⟨hd, hlen, hw, hf1, hl20⟩ := hck
      have el := Nat.eq_of_beq_eq_true hlen
      subst el
      have hr : r < 62 := Nat.le_of_ble_eq_true hc.1
      obtain ⟨vs', rfl, hg, hs'⟩ := hs.consR (by omega)
      have h8 : ev_wd rest ≤ 8 := Nat.le_of_ble_eq_true hc.2
      have h9 := sd_wdc hs'
      have hl20 : 20 ≤ ev_lr mi := Nat.le_of_ble_eq_true hl20
      exact W.objInit (g := F0 m pc vl (.ref (sd_ad g r i) :: vs')) hx hb hown (hts _ (sd_at_in hw)) (hts _ (sd_any sd_oi_ok.1)) (hts _ (sd_any sd_oi_ok.2)) rfl (hl.1.trans hml.symm) rfl (sd_is_eq hd) (by rw [hrf]; exact Nat.le_of_ble_eq_true hf1) (by rw [hrl]; show 2 * 0 + _ + 12 ≤ _; omega)
        (hK _ _ _ _ _ _ _ _ _ _ hcs hev hl hs' hS hR)
    · cases hev
  · -- calls: an int
    obtain ⟨hr, hev⟩ := sd_cl_eq hev
    cases hcall : call (a, 0, (st.take b).reverse, [], 0, 0) μ with
    | none => rw [hcall] at hev; cases hev
    | some t =>
      obtain ⟨o1, μ1⟩ := t
      rw [hcall] at hev
      refine sd_calls C0 hK hP hX hck hr hcall hl hs hS hR (fun z hz => ?_) (fun E hE => ?_)
      · subst hz
        match z, hev with
        | some (.inl (.inl y)), hev => exact hev
        | none, hev => exact absurd hev (by intro q; cases q)
        | some (.inl (.inr y)), hev => exact absurd hev (by intro q; cases q)
        | some (.inr y), hev => exact absurd hev (by intro q; cases q)
      · subst hE; exact hev
  · -- calls: nothing
    obtain ⟨hr, hev⟩ := sd_cl_eq hev
    cases hcall : call (a, 0, (st.take b).reverse, [], 0, 0) μ with
    | none => rw [hcall] at hev; cases hev
    | some t =>
      obtain ⟨o1, μ1⟩ := t
      rw [hcall] at hev
      refine sd_calls C0 hK hP hX hck hr hcall hl hs hS hR (fun z hz => ?_) (fun E hE => ?_)
      · subst hz
        match z, hev with
        | none, hev => exact hev
        | some y, hev => exact absurd hev (by intro q; cases q)
      · subst hE; exact hev
  · -- calls: a reference
    obtain ⟨hr, hev⟩ := sd_cl_eq hev
    cases hcall : call (a, 0, (st.take b).reverse, [], 0, 0) μ with
    | none => rw [hcall] at hev; cases hev
    | some t =>
      obtain ⟨o1, μ1⟩ := t
      rw [hcall] at hev
      refine sd_calls C0 hK hP hX hck hr hcall hl hs hS hR (fun z hz => ?_) (fun E hE => ?_)
      · subst hz
        match z, hev with
        | some (.inr (.inr (r, i))), hev => exact hev
        | none, hev => exact absurd hev (by intro q; cases q)
        | some (.inl y), hev => exact absurd hev (by intro q; cases q)
        | some (.inr (.inl y)), hev => exact absurd hev (by intro q; cases q)
      · subst hE; exact hev
  · -- calls: a double
    obtain ⟨hr, hev⟩ := sd_cl_eq hev
    cases hcall : call (a, 0, (st.take b).reverse, [], 0, 0) μ with
    | none => rw [hcall] at hev; cases hev
    | some t =>
      obtain ⟨o1, μ1⟩ := t
      rw [hcall] at hev
      refine sd_calls C0 hK hP hX hck hr hcall hl hs hS hR (fun z hz => ?_) (fun E hE => ?_)
      · subst hz
        match z, hev with
        | some (.inr (.inl y)), hev => exact hev
        | none, hev => exact absurd hev (by intro q; cases q)
        | some (.inl y), hev => exact absurd hev (by intro q; cases q)
        | some (.inr (.inr y)), hev => exact absurd hev (by intro q; cases q)
      · subst hE; exact hev
  · -- arraycopy
    obtain ⟨n, lk, d, o⟩ := μ
    dsimp only at hev
    simp only [Bool.and_eq_true] at hck
    obtain ⟨hd, hlen, hw, hf1, hf2⟩ := hck
    have el := Nat.eq_of_beq_eq_true hlen
    subst el
    split at hev
    · rename_i k dp r2 i2 sp r1 i1 rest
      split at hev
      · rename_i n2 hk2
        have hr2 : r2 < 62 := sd_kn62 (by rw [hk2]; show 1 < 6; decide)
        obtain ⟨v1, rfl, hs1⟩ := hs.consI
        obtain ⟨v2, rfl, hs2⟩ := hs1.consI
        obtain ⟨v3, rfl, hg2, hs3⟩ := hs2.consR (by omega)
        obtain ⟨v4, rfl, hs4⟩ := hs3.consI
        have ha2 := sd_al62 hg2 hr2
        have hcell2 := sd_cell (hR.1 r2 i2 hr2 ha2) hk2 (by decide) (by decide)
        split at hev
        · rename_i n1 hk1
          have hr1 : r1 < 62 := sd_kn62 (by rw [hk1]; show 1 < 6; decide)
          obtain ⟨v5, rfl, hg1, hs5⟩ := hs4.consR (by omega)
          obtain ⟨hc, hev⟩ := sd_bif hev
          simp only [Bool.and_eq_true, Bool.not_eq_true', decide_eq_false_iff_not] at hc
          obtain ⟨c1, c2, c3, c4, c5, c6⟩ := hc
          have hcell1 := sd_cell (hR.1 r1 i1 hr1 (sd_al62 hg1 hr1)) hk1 (by decide) (by decide)
          refine sd_copy C0 (n0 := n1) (f := d r1 i1) (h := d r2 i2) (sd_is_eq hd) (sd_at_in hw) (Nat.le_of_ble_eq_true hf1) (Nat.le_of_ble_eq_true hf2) hcell1 (hArr.1 _ _) (fun q => by cases q) (by rw [arrV_size]; exact Nat.le_refl _) (fun j hj => by rw [arrV_read _ _ hj]) hcell2 hArr.1 hl.1 hS (sd_ad_ge hr2) (Nat.le_trans (sd_wdc hs5) (Nat.le_of_ble_eq_true c3)) c2 c1 c4 (Nat.le_of_ble_eq_true c5) (Nat.le_of_ble_eq_true c6) fun H1 locs1 e1 z1 oq hS1 => ?_
          exact hK _ _ _ _ _ _ _ _ _ _ hcs hev hl hs5 hS1 (hR.cpy hk2 ha2 z1 oq e1)
        · rename_i n1 hk1
          have er := sd_kn789.2.1 hk1
          subst er
          obtain ⟨v5, rfl, hg1, hs5⟩ := hs4.consR (by decide)
          obtain ⟨hc, hev⟩ := sd_bif hev
          simp only [Bool.and_eq_true, Bool.not_eq_true', decide_eq_false_iff_not] at hc
          obtain ⟨c1, c2, c3, c4, c5, c6⟩ := hc
          obtain ⟨scr, t1, t2, t3, t4, -, t5, t7⟩ := ((hXs.2.2.2.2.1 i1 (by have := hg1.2.2.1 rfl; omega)).1 (hg1.2.2.1 rfl)).2
          have hc0 : H[g.2.2.2.2.2.1 i1]? = some scr := by rw [hS.2.1 _ (Array.getElem?_eq_some_iff.mp t1).1 t7]; exact t1
          refine sd_copy C0 (n0 := 7) (f := ev_sa i1) (h := d r2 i2) (sd_is_eq hd) (sd_at_in hw) (Nat.le_of_ble_eq_true hf1) (Nat.le_of_ble_eq_true hf2) hc0 t2 t3 t4 t5 hcell2 hArr.1 hl.1 hS (sd_ad_ge hr2) (Nat.le_trans (sd_wdc hs5) (Nat.le_of_ble_eq_true c3)) c2 c1 c4 (Nat.le_of_ble_eq_true c5) (Nat.le_of_ble_eq_true c6) fun H1 locs1 e1 z1 oq hS1 => ?_
          exact hK _ _ _ _ _ _ _ _ _ _ hcs hev hl hs5 hS1 (hR.cpy hk2 ha2 z1 oq e1)
        · cases hev
      · cases hev
    · cases hev
  · -- max
    split at hev
    · rename_i y x rest
      obtain ⟨hc, hev⟩ := sd_bif hev
      simp only [Bool.and_eq_true] at hck
      obtain ⟨hd, hlen, hw, hf1, hf2⟩ := hck
      have el := Nat.eq_of_beq_eq_true hlen
      subst el
      obtain ⟨v1, rfl, hs1⟩ := hs.consI
      obtain ⟨v2, rfl, hs2⟩ := hs1.consI
      have h9 := sd_wdc hs2
      have h8 : ev_wd rest ≤ 8 := Nat.le_of_ble_eq_true hc
      have hf2 : 21 ≤ ev_lr mi := Nat.le_of_ble_eq_true hf2
      exact va_mmax hx hb (hml.trans hl.1.symm) hown (hts _ (sd_at_in hw)) (hts _ (sd_any sd_ma_ok.1)) (hts _ (sd_any sd_ma_ok.2.2.1)) (hts _ (sd_any sd_ma_ok.2.2.2.1)) (by rw [hrf]; exact Nat.le_of_ble_eq_true hf1) (by rw [hrl]; omega) (by rw [hrc]; exact hcs.1) (by rw [hrs]; exact hcs.2) (sd_is_eq hd)
        (hK _ _ _ _ _ _ _ _ _ _ hcs hev hl ⟨rfl, hs2⟩ hS hR)
    · cases hev
  · -- min
    split at hev
    · rename_i y x rest
      obtain ⟨hc, hev⟩ := sd_bif hev
      simp only [Bool.and_eq_true] at hck
      obtain ⟨hd, hlen, hw, hf1, hf2⟩ := hck
      have el := Nat.eq_of_beq_eq_true hlen
      subst el
      obtain ⟨v1, rfl, hs1⟩ := hs.consI
      obtain ⟨v2, rfl, hs2⟩ := hs1.consI
      have h9 := sd_wdc hs2
      have h8 : ev_wd rest ≤ 8 := Nat.le_of_ble_eq_true hc
      have hf2 : 21 ≤ ev_lr mi := Nat.le_of_ble_eq_true hf2
      exact va_mmin hx hb (hml.trans hl.1.symm) hown (hts _ (sd_at_in hw)) (hts _ (sd_any sd_ma_ok.2.1)) (hts _ (sd_any sd_ma_ok.2.2.1)) (hts _ (sd_any sd_ma_ok.2.2.2.2)) (by rw [hrf]; exact Nat.le_of_ble_eq_true hf1) (by rw [hrl]; omega) (by rw [hrc]; exact hcs.1) (by rw [hrs]; exact hcs.2) (sd_is_eq hd)
        (hK _ _ _ _ _ _ _ _ _ _ hcs hev hl ⟨rfl, hs2⟩ hS hR)
    · cases hev
  · -- ireturn
    split at hev
    · rename_i y
      obtain ⟨hok, hev⟩ := sd_bif hev
      simp only [Bool.and_eq_true] at hck
      cases hev
      obtain ⟨v1, rfl, hs1⟩ := hs.consI
      have := hs1.nil
      subst this
      exact sd_ret1 C0 hX (sd_is_eq hck.1) hck.2 hok rfl rfl hS hR hcs
    · cases hev
  · -- return
    split at hev
    · cases hev
      simp only [Bool.and_eq_true, decide_eq_true_eq] at hck
      have := hs.nil
      subst this
      have h243 : mi < 282 := Nat.le_of_ble_eq_true hck.2.1
      rcases hX with ⟨-, hret, hQ⟩ | ⟨q, -⟩
      · rw [hQ]
        exact W.widen hcs.1 hcs.2 (vx_ret (W.vret hx hb (hret.trans hck.2.2) (fun t ht _ => ⟨rfl, by rw [ht]; exact hR, hS.F ht⟩) hS.2.2 (sd_is_eq hck.1) (hlocks := hlk)))
      · omega
    · cases hev
  · -- areturn
    split at hev
    · rename_i r i
      obtain ⟨hok, hev⟩ := sd_bif hev
      have hr : r ≤ 100 := Nat.le_of_ble_eq_true hok
      cases hev
      simp only [Bool.and_eq_true] at hck
      obtain ⟨hd, h243, hty⟩ := hck
      obtain ⟨v1, rfl, hg, hs1⟩ := hs.consR (by omega)
      have := hs1.nil
      subst this
      have h243 : mi < 282 := Nat.le_of_ble_eq_true h243
      rcases hX with ⟨-, hret, hQ⟩ | ⟨q, -⟩
      · rw [hQ]
        obtain ⟨ty, h1, h2⟩ : ∃ ty, sd_ret mi = some ty ∧ ((∃ n, ty = .object n) ∨ ∃ t, ty = .array t) := by
          split at hty
          · rename_i n q; exact ⟨_, q, Or.inl ⟨_, rfl⟩⟩
          · rename_i n q; exact ⟨_, q, Or.inr ⟨_, rfl⟩⟩
          · cases hty
        exact W.widen hcs.1 hcs.2 (vx_ret (W.aret hx hb (hret.trans h1) h2 (Or.inr ⟨_, rfl⟩) (fun t ht _ => ⟨⟨_, rfl, sd_vr hg (sd_kr1 (by omega))⟩, by rw [ht]; exact hR, hS.F ht⟩) hS.2.2 (sd_is_eq hd) (hlocks := hlk)))
      · omega
    · cases hev
  · -- dreturn
    split at hev
    · rename_i y
      cases hev
      simp only [Bool.and_eq_true, decide_eq_true_eq] at hck
      obtain ⟨v1, rfl, hs1⟩ := hs.consD
      have := hs1.nil
      subst this
      have h243 : mi < 282 := Nat.le_of_ble_eq_true hck.2.1
      rcases hX with ⟨-, hret, hQ⟩ | ⟨q, -⟩
      · rw [hQ]
        exact W.widen hcs.1 hcs.2 (vx_ret (W.dret hx hb (hret.trans hck.2.2) (fun t ht _ => ⟨⟨_, rfl, rfl⟩, by rw [ht]; exact hR, hS.F ht⟩) hS.2.2 (sd_is_eq hck.1) (hlocks := hlk)))
      · omega
    · cases hev
  · -- a throw
    obtain ⟨n, lk, d, o⟩ := μ
    dsimp only at hev
    obtain ⟨hc, hev⟩ := sd_bif hev
    simp only [Bool.and_eq_true] at hc
    cases hev
    exact sd_throw (len := len) C0 hX hck rfl rfl (Nat.le_of_ble_eq_true hc.2.2.2) (Nat.le_of_ble_eq_true hc.1) (Nat.le_of_ble_eq_true hc.2.1) (Nat.le_trans (sd_wdc hs) (Nat.le_of_ble_eq_true hc.2.2.1)) hl.1 hS hR
  · cases hev
end SDC
/-! SOUNDNESS, 12: nothing is forgotten -/
theorem sd_swm : ∀ (tb : List Nat) (k : Nat) (y : Int32) (f : Nat → ev_T) (z : ev_T) {r : ev_O × ev_M}, ev_sw tb k y f z = some r → (∃ t, f t = some r) ∨ z = some r
  | [], _, _, _, _, _, h => Or.inr h
  | t :: ts, k, y, f, z, r, h => by
    unfold ev_sw at h
    split at h
    · exact Or.inl ⟨t, h⟩
    · exact sd_swm ts (k + 1) y f z h
theorem sd_hsm : ∀ {l : List Nat} {E : Nat} {y : Nat → ev_T} {r : ev_O × ev_M}, ev_hs l E y none = some r → ∃ hp, y hp = some r
  | [], _, _, _, h => by cases h
  | [_], _, _, _, h => by cases h
  | e :: hp :: l, E, y, r, h => by
    have h : (bif Nat.beq e E then y hp else ev_hs l E y none) = some r := h
    cases q : Nat.beq e E with
    | true => rw [q] at h; exact ⟨hp, h⟩
    | false => rw [q] at h; exact sd_hsm h
theorem sd_hxm {l : List Nat} {E : Nat} {μ : ev_M} {y : Nat → ev_T} {r : ev_O × ev_M} (h : ev_hx l E μ y = some r) : r = (.inr E, μ) ∨ ∃ hp, y hp = some r := by
  unfold ev_hx at h
  split at h
  · cases h; exact Or.inl rfl
  · exact Or.inr (sd_hsm h)
section SDM
variable {K : ev_K} {μz : ev_M} {res : ev_O}
def sd_Km (K : ev_K) (res : ev_O) (μz : ev_M) : Prop := ∀ (pc : Nat) (ls st : List ev_V) (μ : ev_M) (c s : Nat), K pc ls st μ c s = some (res, μz) → sd_le (sd_nn μ) (sd_nn μz)
theorem sd_m0 (hK : sd_Km K res μz) {h a len pc c s : Nat} {x : Int32} {ls st : List ev_V} {μ : ev_M} (hv : ev_g0 h a len x pc ls st μ c s K = some (res, μz)) : sd_le (sd_nn μ) (sd_nn μz) := by
  unfold ev_g0 at hv
  simp only [Bool.cond_eq_ite] at hv
  repeat' split at hv
  all_goals first | (have q := hK _ _ _ _ _ _ hv; exact q) | cases hv
theorem sd_m1 (hK : sd_Km K res μz) {h len pc c s : Nat} {ls st : List ev_V} {μ : ev_M} (hv : ev_g1 h len pc ls st μ c s K = some (res, μz)) : sd_le (sd_nn μ) (sd_nn μz) := by
  unfold ev_g1 at hv
  repeat' split at hv
  all_goals first | (have q := hK _ _ _ _ _ _ hv; exact q) | cases hv
theorem sd_m5 (hK : sd_Km K res μz) {h len pc c s : Nat} {ls st : List ev_V} {μ : ev_M} (hv : ev_g5 h len pc ls st μ c s K = some (res, μz)) : sd_le (sd_nn μ) (sd_nn μz) := by
  unfold ev_g5 at hv
  repeat' split at hv
  all_goals first | (have q := hK _ _ _ _ _ _ hv; exact q) | cases hv
theorem sd_m6 (hK : sd_Km K res μz) {h len pc c s : Nat} {ls st : List ev_V} {μ : ev_M} (hv : ev_g6 h len pc ls st μ c s K = some (res, μz)) : sd_le (sd_nn μ) (sd_nn μz) := by
  unfold ev_g6 at hv
  repeat' split at hv
  all_goals first | (have q := hK _ _ _ _ _ _ hv; exact q) | cases hv
theorem sd_m2 (hK : sd_Km K res μz) {h a b len pc c s : Nat} {tb : List Nat} {ls st : List ev_V} {μ : ev_M} (hv : ev_g2 h a b len tb pc ls st μ c s K = some (res, μz)) : sd_le (sd_nn μ) (sd_nn μz) := by
  unfold ev_g2 at hv
  simp only [Bool.cond_eq_ite] at hv
  repeat' split at hv
  all_goals first
    | exact hK _ _ _ _ _ _ hv
    | (rcases sd_swm _ _ _ _ _ hv with ⟨t, h2⟩ | h2 <;> exact hK _ _ _ _ _ _ h2)
    | cases hv
theorem sd_m3 (hK : sd_Km K res μz) {h a b len pc c s : Nat} {x : Int32} {ls st : List ev_V} {μ : ev_M} (hv : ev_g3 h a b len x pc ls st μ c s K = some (res, μz)) : sd_le (sd_nn μ) (sd_nn μz) := by
  obtain ⟨n, lk, d, o⟩ := μ
  unfold ev_g3 at hv
  dsimp only at hv
  simp only [Bool.cond_eq_ite] at hv
  repeat' split at hv
  all_goals first | (have q := hK _ _ _ _ _ _ hv; exact q) | cases hv
theorem sd_mmk (hK : sd_Km K res μz) {r i pc len c s c' s' m : Nat} {ls st : List ev_V} {μ : ev_M} (hv : ev_mk r i pc len c s c' s' m ls st μ K = some (res, μz)) : sd_le (sd_nn μ) (sd_nn μz) := by
  obtain ⟨n, lk, d, o⟩ := μ
  have h := hK _ _ _ _ _ _ (sd_mk_eq hv).2
  exact sd_le.tr sd_le1 h
theorem sd_mcall (hK : sd_Km K res μz) {call : ev_F → ev_M → ev_T} (hC : ∀ f μ r, call f μ = some r → sd_le (sd_nn μ) (sd_nn r.2)) {f : ev_F} {μ : ev_M} {r : ev_O × ev_M} (hcall : call f μ = some r) {k : ev_M → ev_T} {tb l : List Nat} {E : Nat}
    {y : Nat → ev_M → ev_T} (hy : ∀ hp ν, y hp ν = some (res, μz) → sd_le (sd_nn ν) (sd_nn μz)) (h : (bif Nat.beq (tb.getD 2 9) 0 && Nat.beq (tb.getD 3 9) 0 then ev_hx l E r.2 (fun hp => y hp r.2) else none) = some (res, μz)) : sd_le (sd_nn μ) (sd_nn μz) := by
  have h1 := hC _ _ _ hcall
  obtain ⟨-, h⟩ := sd_bif h
  rcases sd_hxm h with e | ⟨hp, e⟩
  · cases e; exact h1
  · exact sd_le.tr h1 (hy _ _ e)
theorem sd_m4 (hK : sd_Km K res μz) {call : ev_F → ev_M → ev_T} (hC : ∀ f μ r, call f μ = some r → sd_le (sd_nn μ) (sd_nn r.2)) {m h a b len pc c s : Nat} {tb : List Nat} {ls st : List ev_V} {μ : ev_M} (hv : ev_g4 call m h a b len tb pc ls st μ c s K = some (res, μz)) : sd_le (sd_nn μ) (sd_nn μz) := by
  have callX : ∀ {f : ev_F} {r : ev_O × ev_M} {E c' s' : Nat}, call f μ = some r → (bif Nat.beq (tb.getD 2 9) 0 && Nat.beq (tb.getD 3 9) 0 then ev_hx (tb.drop 4) E r.2 (fun hp => K hp ls [ev_R 106 0] r.2 c' s') else none) = some (res, μz) → sd_le (sd_nn μ) (sd_nn μz) := fun {f r E c' s'} h1 h2 =>
    sd_mcall (k := fun _ => none) hK hC h1 (y := fun hp ν => K hp ls [ev_R 106 0] ν c' s') (fun hp ν q => hK _ _ _ _ _ _ q) h2
  unfold ev_g4 at hv
  split at hv
  · split at hv
    · exact sd_mmk hK hv
    · cases hv
  · split at hv
    · split at hv
      · exact sd_mmk hK (sd_bif hv).2
      · cases hv
    · cases hv
  · split at hv
    · split at hv
      · exact sd_mmk hK (sd_bif hv).2
      · cases hv
    · cases hv
  · split at hv
    · exact hK _ _ _ _ _ _ (sd_bif hv).2
    · cases hv
  · obtain ⟨hr, hv⟩ := sd_cl_eq hv
    cases hcall : call (a, 0, (st.take b).reverse, [], 0, 0) μ with
    | none => rw [hcall] at hv; cases hv
    | some t =>
      rw [hcall] at hv
      unfold ev_bi at hv
      split at hv
      · rename_i x μ1 e; cases e; exact sd_le.tr (hC _ _ _ hcall) (hK _ _ _ _ _ _ hv)
      · rename_i E μ1 e; cases e; exact callX hcall hv
      · cases hv
  · obtain ⟨hr, hv⟩ := sd_cl_eq hv
    cases hcall : call (a, 0, (st.take b).reverse, [], 0, 0) μ with
    | none => rw [hcall] at hv; cases hv
    | some t =>
      rw [hcall] at hv
      unfold ev_bv at hv
      split at hv
      · rename_i μ1 e; cases e; exact sd_le.tr (hC _ _ _ hcall) (hK _ _ _ _ _ _ hv)
      · rename_i E μ1 e; cases e; exact callX hcall hv
      · cases hv
  · obtain ⟨hr, hv⟩ := sd_cl_eq hv
    cases hcall : call (a, 0, (st.take b).reverse, [], 0, 0) μ with
    | none => rw [hcall] at hv; cases hv
    | some t =>
      rw [hcall] at hv
      unfold ev_br at hv
      split at hv
      · rename_i x y μ1 e; cases e; exact sd_le.tr (hC _ _ _ hcall) (hK _ _ _ _ _ _ hv)
      · rename_i E μ1 e; cases e; exact callX hcall hv
      · cases hv
  · obtain ⟨hr, hv⟩ := sd_cl_eq hv
    cases hcall : call (a, 0, (st.take b).reverse, [], 0, 0) μ with
    | none => rw [hcall] at hv; cases hv
    | some t =>
      rw [hcall] at hv
      unfold ev_bd at hv
      split at hv
      · rename_i x μ1 e; cases e; exact sd_le.tr (hC _ _ _ hcall) (hK _ _ _ _ _ _ hv)
      · rename_i E μ1 e; cases e; exact callX hcall hv
      · cases hv
  all_goals
    obtain ⟨n, lk, d, o⟩ := μ
    try dsimp only at hv
    try simp only [Bool.cond_eq_ite] at hv
    repeat' split at hv
    all_goals first | (have q := hK _ _ _ _ _ _ hv; exact q) | (cases hv; exact sd_le.rf _) | (cases hv; exact ⟨by show n ≤ n + 1000; omega, Nat.le_refl _, fun _ _ => rfl⟩) | cases hv
theorem sd_lqe {x : Nat} {k : Nat → ev_T} {r : ev_O × ev_M} (h : ev_lq x k = some r) : ∃ j, x = j + 1 ∧ k j = some r := by
  unfold ev_lq at h
  split at h
  · cases h
  · exact ⟨_, rfl, h⟩
theorem sd_ghe {t : ev_T} {μ : ev_M} {k : ev_M → ev_T} {r : ev_O × ev_M} (h : ev_gh t μ k = some r) : ∃ z ν, t = some (z, ν) ∧ k (ev_mg μ ν) = some r := by
  unfold ev_gh at h
  split at h
  · exact ⟨_, _, rfl, h⟩
  · cases h
theorem sd_mmw (hK : sd_Km K res μz) {r pc len c s c' s' m : Nat} {e' : Nat → Nat → Nat → Int32} {ls st : List ev_V} {n w : Nat} {lk : Nat → Nat → Nat → Bool} {d e : Nat → Nat → Nat → Int32} {t : Nat → Nat} {q : Nat → Nat → Nat → Nat} (hv : ev_mw r e' pc len c s c' s' m ls st (n, lk, d, w, t, e, q) K = some (res, μz)) : sd_le (n, w, t) (sd_nn μz) :=
  sd_le.tr sd_le2 (hK _ _ _ _ _ _ (sd_mw_eq hv).2)
theorem sd_m7 (hK : sd_Km K res μz) {call : ev_F → ev_M → ev_T} (hC : ∀ f μ r, call f μ = some r → sd_le (sd_nn μ) (sd_nn r.2)) {m h a b len pc c s : Nat} {x : Int32} {tb : List Nat} {ls st : List ev_V} {μ : ev_M} (hv : ev_g7 call m h a b len x tb pc ls st μ c s K = some (res, μz)) : sd_le (sd_nn μ) (sd_nn μz) := by
  have hgh : ∀ {t : ev_T} {ν : ev_M} {k : ev_M → ev_T}, ev_gh t ν k = some (res, μz) → (∀ ν', k ν' = some (res, μz) → sd_le (sd_nn ν') (sd_nn μz)) → sd_le (sd_nn ν) (sd_nn μz) := fun {t ν k} h h2 => by
    obtain ⟨z, ν2, -, e⟩ := sd_ghe h
    have z := h2 _ e
    exact z
  have hcl : ∀ {kd : Nat} {k : ev_F → List ev_V → Nat → Nat → ev_T}, ev_cl m a b kd st c s k = some (res, μz) → (∀ f r c' s', k f r c' s' = some (res, μz) → sd_le (sd_nn μ) (sd_nn μz)) → sd_le (sd_nn μ) (sd_nn μz) := fun {kd k} h h2 => h2 _ _ _ _ (sd_cl_eq h).2
  obtain ⟨n, lk, d, w, t, e, q⟩ := μ
  unfold ev_g7 at hv
  dsimp only at hv
  simp only [Bool.cond_eq_ite] at hv
  split at hv
  all_goals first
    | cases hv
    | (refine hcl hv fun f r c' s' h1 => ?_
       cases hcall : call f (n, lk, d, w, t, e, q) with
       | none => rw [hcall] at h1; cases h1
       | some z =>
         rw [hcall] at h1
         have h3 := hC _ _ _ hcall
         first
         | (unfold ev_bi at h1
            split at h1
            · rename_i y μ1 e1; cases e1; exact sd_le.tr h3 (hgh h1 (fun _ h4 => hK _ _ _ _ _ _ h4))
            · cases h1
            · cases h1)
         | (unfold ev_bv at h1
            split at h1
            · rename_i μ1 e1; cases e1; exact sd_le.tr h3 (hgh h1 (fun _ h4 => hK _ _ _ _ _ _ h4))
            · cases h1
            · cases h1)
         | (unfold ev_bd at h1
            split at h1
            · rename_i y μ1 e1; cases e1; exact sd_le.tr h3 (hgh h1 (fun _ h4 => hK _ _ _ _ _ _ h4))
            · cases h1
            · cases h1)
         | (unfold ev_br at h1
            split at h1
            · rename_i r1 i1 μ1 e1; cases e1; dsimp only at h1; split at h1 <;> first | exact sd_le.tr h3 (hK _ _ _ _ _ _ h1) | cases h1
            · cases h1
            · cases h1))
    | (repeat' split at hv
       all_goals first
         | (have z := hK _ _ _ _ _ _ hv; exact z)
         | exact sd_mmw hK hv
         | (obtain ⟨j, -, z⟩ := sd_lqe hv; have z := hK _ _ _ _ _ _ z; exact z)
         | (cases hv; exact sd_le.rf _)
         | cases hv)
theorem sd_mex (hK : sd_Km K res μz) {call : ev_F → ev_M → ev_T} (hC : ∀ f μ r, call f μ = some r → sd_le (sd_nn μ) (sd_nn r.2)) {m pc c s : Nat} {ins : ev_C} {ls st : List ev_V} {μ : ev_M} (hv : ev_ex call m K ins pc ls st μ c s = some (res, μz)) : sd_le (sd_nn μ) (sd_nn μz) := by
  obtain ⟨q, gp, h, a, b, len, x, tb⟩ := ins
  unfold ev_ex at hv
  dsimp only at hv
  split at hv
  · exact sd_m0 hK hv
  · exact sd_m1 hK hv
  · exact sd_m2 hK hv
  · exact sd_m3 hK hv
  · exact sd_m4 hK hC hv
  · exact sd_m5 hK hv
  · exact sd_m6 hK hv
  · exact sd_m7 hK hC hv
  · cases hv
end SDM
theorem sd_mono : ∀ (n : Nat) (f : ev_F) (μ : ev_M) (r : ev_O × ev_M), ev_ev n f μ = some r → sd_le (sd_nn μ) (sd_nn r.2)
  | 0, _, _, _, h => by cases h
  | n + 1, (m, pc, ls, st, c, s), μ, (res, μz), h => by
    have h : (match ev_code m pc with
      | none => none
      | some ins => ev_ex (ev_ev n) m (fun pc' ls' st' μ' c' s' => ev_ev n (m, pc', ls', st', c', s') μ') ins pc (ev_ct ins.1 ls) st μ c s) = some (res, μz) := h
    split at h
    · cases h
    · exact sd_mex (fun pc ls st μ c s h => sd_mono n _ _ _ h) (sd_mono n) h
/-! SOUNDNESS, 12b: the law's instructions, all -/
theorem sd_ln6 {r : Nat} (h : (ev_ln r).1 < 6) : 199 < r ∧ r ≤ 215 := by
  unfold ev_ln at h
  cases h1 : Nat.ble r 199 with
  | true =>
    rw [h1] at h
    simp only [cond_true] at h
    cases h2 : Nat.beq r 101 <;> cases h3 : Nat.beq r 102 <;> cases h4 : Nat.beq r 103 <;> cases h5 : Nat.beq r 108 <;> simp [h2, h3, h4, h5] at h
  | false =>
    refine ⟨Nat.not_le.mp fun z => ?_, ?_⟩
    · rw [Nat.ble_eq.mpr z] at h1; cases h1
    · rw [h1] at h
      simp only [cond_false] at h
      cases h2 : Nat.ble r 215 with
      | true => exact Nat.le_of_ble_eq_true h2
      | false => rw [h2] at h; simp only [cond_false] at h; exact absurd h (by decide)
theorem sd_lnx {r k : Nat} : (ev_ln r = (7, k) → r = 101) ∧ (ev_ln r = (8, k) → r = 102) ∧ (ev_ln r = (9, k) → r = 103) ∧ (ev_ln r = (10, k) → r = 108) := by
  cases h1 : Nat.ble r 199 with
  | true =>
    unfold ev_ln
    rw [h1]
    simp only [cond_true]
    cases h2 : Nat.beq r 101 with
    | true => have := Nat.eq_of_beq_eq_true h2; simp [this]
    | false =>
      cases h3 : Nat.beq r 102 with
      | true => have := Nat.eq_of_beq_eq_true h3; simp [this]
      | false =>
        cases h4 : Nat.beq r 103 with
        | true => have := Nat.eq_of_beq_eq_true h4; simp [this]
        | false =>
          cases h5 : Nat.beq r 108 with
          | true => have := Nat.eq_of_beq_eq_true h5; simp [this]
          | false => simp
  | false =>
    have h0 : ∀ r, r < 216 → 199 < r → (ev_ln r).1 < 6 := by decide +kernel
    have hr : 199 < r := Nat.not_le.mp fun z => by rw [Nat.ble_eq.mpr z] at h1; cases h1
    have h6 : ∀ j, 6 < j → ev_ln r ≠ (j, k) := by
      intro j hj e
      by_cases z : r < 216
      · have := h0 r z hr
        rw [e] at this
        have : j < 6 := this
        omega
      · unfold ev_ln at e
        rw [h1] at e
        have h2 : Nat.ble r 215 = false := by
          cases q : Nat.ble r 215 with
          | false => rfl
          | true => have := Nat.le_of_ble_eq_true q; omega
        rw [h2] at e
        have : (6, 0) = (j, k) := e
        cases this
        omega
    exact ⟨fun e => absurd e (h6 7 (by omega)), fun e => absurd e (h6 8 (by omega)), fun e => absurd e (h6 9 (by omega)), fun e => absurd e (h6 10 (by omega))⟩
theorem sd_lrk : ∀ r, r < 216 → 199 < r → ∀ k, k < 32 → sd_ir r k = true → sd_lr r k = 100 ∨ (199 < sd_lr r k ∧ sd_lr r k ≤ 215) := by decide +kernel
theorem sd_lzk : ∀ r, r < 216 → 199 < r → sd_lz r < 41 := by decide +kernel
theorem sd_lzo : ∀ r, r < 216 → 199 < r → ((ev_ln r).1 = 0 ∨ (ev_ln r).1 = 5) → sd_lz r < 32 := by decide +kernel
theorem sd_lr_kr {r k : Nat} (h : 199 < r) (h2 : r ≤ 215) (hi : sd_ir r k = true) (hk : k < sd_lz r) : sd_kr (sd_lr r k) := by
  have h5 : (ev_ln r).1 = 0 ∨ (ev_ln r).1 = 5 := by
    unfold sd_ir at hi
    split at hi
    · rename_i z; exact Or.inl (by rw [z])
    · rename_i z; exact Or.inr (by rw [z])
    · cases hi
  have := sd_lzo r (by omega) h h5
  rcases sd_lrk r (by omega) h k (by omega) hi with z | z
  · rw [z]; exact sd_kr1 (by omega)
  · exact sd_kr2 z.1
theorem sd_l1 {g : sd_G} {o : ev_W} {r i n : Nat} {H : Heap} (h : sd_lc g o r i H) (hk : ev_ln r = (1, n)) : H[sd_ad g r i]? = some (arrV (g.2.2.1 1) n (fun k => .int (o.2.2.1 r i k))) := by
  unfold sd_lc at h
  rw [hk] at h
  exact h
theorem sd_l2 {g : sd_G} {o : ev_W} {r i n : Nat} {H : Heap} (h : sd_lc g o r i H) (hk : ev_ln r = (2, n)) : H[sd_ad g r i]? = some (arrV (g.2.2.1 2) (o.2.2.1 199 i 0).toNatClampNeg (fun k => .int (o.2.2.1 r i k))) ∧ o.2.2.1 199 i 0 = Int32.ofNat (o.2.2.1 199 i 0).toNatClampNeg ∧ ∀ k, k < (o.2.2.1 199 i 0).toNatClampNeg → fits .byte (.int (o.2.2.1 r i k)) = true := by
  unfold sd_lc at h
  rw [hk] at h
  exact h
theorem sd_l3 {g : sd_G} {o : ev_W} {r i n : Nat} {H : Heap} (h : sd_lc g o r i H) (hk : ev_ln r = (3, n)) : H[sd_ad g r i]? = some (arrV (g.2.2.1 3) n (fun k => .int (o.2.2.1 r i k))) ∧ ∀ k, k < n → fits .boolean (.int (o.2.2.1 r i k)) = true := by
  unfold sd_lc at h
  rw [hk] at h
  exact h
theorem sd_l5 {g : sd_G} {o : ev_W} {r i n : Nat} {H : Heap} (h : sd_lc g o r i H) (hk : ev_ln r = (5, n)) : H[sd_ad g r i]? = some (arrV (g.2.2.1 (if r = 207 then 4 else 6)) n (fun k => sd_lu g o r i k)) := by
  unfold sd_lc at h
  rw [hk] at h
  exact h
theorem sd_l1' {g : sd_G} {o : ev_W} {r i n : Nat} {H : Heap} (hk : ev_ln r = (1, n)) (h : H[sd_ad g r i]? = some (arrV (g.2.2.1 1) n (fun k => .int (o.2.2.1 r i k)))) : sd_lc g o r i H := by
  unfold sd_lc
  rw [hk]
  exact h
theorem sd_l2' {g : sd_G} {o : ev_W} {r i n : Nat} {H : Heap} (hk : ev_ln r = (2, n)) (h : H[sd_ad g r i]? = some (arrV (g.2.2.1 2) (o.2.2.1 199 i 0).toNatClampNeg (fun k => .int (o.2.2.1 r i k))) ∧ o.2.2.1 199 i 0 = Int32.ofNat (o.2.2.1 199 i 0).toNatClampNeg ∧ ∀ k, k < (o.2.2.1 199 i 0).toNatClampNeg → fits .byte (.int (o.2.2.1 r i k)) = true) : sd_lc g o r i H := by
  unfold sd_lc
  rw [hk]
  exact h
theorem sd_l3' {g : sd_G} {o : ev_W} {r i n : Nat} {H : Heap} (hk : ev_ln r = (3, n)) (h : H[sd_ad g r i]? = some (arrV (g.2.2.1 3) n (fun k => .int (o.2.2.1 r i k))) ∧ ∀ k, k < n → fits .boolean (.int (o.2.2.1 r i k)) = true) : sd_lc g o r i H := by
  unfold sd_lc
  rw [hk]
  exact h
theorem sd_l5' {g : sd_G} {o : ev_W} {r i n : Nat} {H : Heap} (hk : ev_ln r = (5, n)) (h : H[sd_ad g r i]? = some (arrV (g.2.2.1 (if r = 207 then 4 else 6)) n (fun k => sd_lu g o r i k))) : sd_lc g o r i H := by
  unfold sd_lc
  rw [hk]
  exact h
theorem sd_k207 : ∀ r, r < 216 → (ev_ln r).1 = 5 → (r = 207 ∧ (ev_ln r).2 = 4) ∨ (r = 212 ∧ (ev_ln r).2 = 7) := by decide +kernel
theorem sd_lu_n3 {g : sd_G} {w : Nat} {t : Nat → Nat} {e : Nat → Nat → Nat → Int32} {q : Nat → Nat → Nat → Nat} {r i k0 j k : Nat} : sd_lu g (w, t, e, ev_n3 q r i k0 (j + 1)) r i k = if k = k0 then .ref (sd_ad g (sd_lr r k0) j) else sd_lu g (w, t, e, q) r i k := by
  unfold sd_lu
  show (match ev_n3 q r i k0 (j + 1) r i k with | 0 => Value.null | j + 1 => .ref (sd_ad g (sd_lr r k) j)) = _
  rw [sd_n3_on]
  by_cases z : k = k0
  · rw [if_pos z, if_pos z, z]
  · rw [if_neg z, if_neg z]
    rfl
theorem sd_lu_u3 {g : sd_G} {w : Nat} {t : Nat → Nat} {e e' : Nat → Nat → Nat → Int32} {q : Nat → Nat → Nat → Nat} {r i k : Nat} : sd_lu g (w, t, e', q) r i k = sd_lu g (w, t, e, q) r i k := rfl
theorem sd_cpyfit {f h : Nat → Int32} {sp dp n N M : Nat} {ty : FieldType} (hf : ∀ j, j < N → fits ty (.int (f j)) = true) (hh : ∀ j, j < M → fits ty (.int (h j)) = true) (h1 : sp + n ≤ N) : ∀ j, j < M → fits ty (.int (va_cpy f h sp dp n j)) = true := by
  intro j hj
  unfold va_cpy
  split
  · exact hf _ (by omega)
  · exact hh j hj
theorem sd_sbfit : ∀ i, i < 46 → ∀ k, k < 40 → fits .byte (.int (ev_sb i k)) = true := by decide +kernel
theorem sd_sl40 : ∀ i, i < 46 → ev_sl i < 40 := by decide +kernel
theorem sd_so46 {i : Nat} (h : ev_so i = true) : i < 46 := by
  refine Nat.not_le.mp fun z => ?_
  have a : ∀ k, k < 46 → Nat.ble i k = false := fun k hk => by
    cases e : Nat.ble i k with
    | false => rfl
    | true => have := Nat.le_of_ble_eq_true e; omega
  unfold ev_so at h
  simp only [a 21 (by omega), a 22 (by omega), a 23 (by omega), a 34 (by omega), a 45 (by omega), a 2 (by omega), cond_false] at h
  first | exact absurd h (by decide) | (simp [a] at h)
theorem sd_lyn3 {a b : Nat} : ev_ly a b ≠ 3 := by
  unfold ev_ly
  cases Nat.beq a 11 <;> cases Nat.beq b 12 <;> cases Nat.beq a 12 <;> cases Nat.beq b 8 <;> cases Nat.beq b 1 <;> cases Nat.beq a 13 <;> cases Nat.beq b 3 <;> cases Nat.beq b 2 <;> simp
/-! SOUNDNESS, 12c: the law's instructions, their soundness -/
def sd_k7 (mi pc h a b len : Nat) (x : Int32) (tb : List Nat) : Bool := match h with
  | 18 => sd_kcall mi pc a b len tb
  | 19 => sd_kcall mi pc a b len tb
  | 20 => sd_kcall mi pc a b len tb
  | 28 => sd_kcall mi pc a b len tb
  | 27 => sd_is (sd_cc mi) pc .areturn 1 && (Nat.blt mi 282 && (match sd_ret mi with
    | some (.object _) => true
    | some (.array _) => true
    | _ => false))
  | h => sd_k7a mi pc h a b len x tb
section SD7H
variable {p : Program} {l : Launch} {e : Env} {R : Room} {s : State} {m : MethodId} {args : Array Value} {below : List Frame} {meth : Method} {c : Code} {Q : State → Prop} {g : sd_G} {mi : Nat} {res : ev_O} {μz : ev_M} {K : ev_K}
variable {n w : Nat} {lk : Nat → Nat → Nat → Bool} {d ee : Nat → Nat → Nat → Int32} {t : Nat → Nat} {q : Nat → Nat → Nat → Nat}
/-- the model's own run leaves the heap's picture as it is -/
theorem sd_R.ghost {μ ν : ev_M} {H : Heap} (h : sd_R g μ H) : sd_R g (ev_mg μ ν) H := by
  obtain ⟨h1, h2, h3, h4, h5, h6, h7, h8⟩ := h
  have hb : ∀ r, r < 44 → (Nat.blt 43 r && Nat.blt r 62) = false := fun r hr => by
    have : Nat.blt 43 r = false := by
      cases z : Nat.blt 43 r with
      | false => rfl
      | true => have : 43 < r := Nat.le_of_ble_eq_true z; omega
    rw [this]; rfl
  have hl : ∀ r, r < 44 → ∀ i k, (ev_mg μ ν).2.1 r i k = μ.2.1 r i k := fun r hr i k => by
    show (bif Nat.blt 43 r && Nat.blt r 62 then ν.2.1 r else μ.2.1 r) i k = _
    rw [hb r hr]; rfl
  have hd : ∀ r, r < 44 → ∀ i k, (ev_mg μ ν).2.2.1 r i k = μ.2.2.1 r i k := fun r hr i k => by
    show (bif Nat.blt 43 r && Nat.blt r 62 then ν.2.2.1 r else μ.2.2.1 r) i k = _
    rw [hb r hr]; rfl
  refine ⟨fun r i hr ha => ?_, h2, fun r i k hr ha a b c => ?_, ?_, ?_, h6, h7, h8⟩
  · have h44 := (sd_cn_ev ha.1).1
    exact (h1 r i hr ha).kept rfl (hl r h44 i) (hd r h44 i)
  · have h44 := (sd_cn_ev ha.1).1
    rw [hl r h44] at c
    exact h3 r i k hr ha a b c
  · exact h4
  · exact h5
theorem sd_lcl {H : Heap} (hR : sd_R g (n, lk, d, w, t, ee, q) H) {r i : Nat} (ha : sd_la (n, w, t) r i) : sd_lc g (w, t, ee, q) r i H := hR.2.2.2.2.2.2.2.1 r i ha
theorem sd_lgd {H : Heap} (hR : sd_R g (n, lk, d, w, t, ee, q) H) {r i k j : Nat} (ha : sd_la (n, w, t) r i) (hi : sd_ir r k = true) (hk : k < sd_lz r) (hj : q r i k = j + 1) : sd_gd (n, w, t) (sd_lr r k) j := hR.2.2.2.2.2.2.2.2 r i k j ha hi hk hj
/-- a number written -/
theorem sd_R.lputi {H H1 : Heap} {r i k : Nat} {v : Int32} (hR : sd_R g (n, lk, d, w, t, ee, q) H) (ha : sd_la (n, w, t) r i) (hz : H1.size = H.size) (oq : ∀ p : Nat, p ≠ sd_ad g r i → H1[p]? = H[p]?) (hc : sd_lc g (w, t, ev_u3 ee r i k v, q) r i H1) : sd_R g (n, lk, d, w, t, ev_u3 ee r i k v, q) H1 :=
  hR.lput ha hz oq (fun _ _ k _ h => sd_u3_off k h) (fun _ _ _ _ _ => rfl) hc (fun k j a b c => sd_lgd hR ha a b c)
theorem sd_R.lputw {H H1 : Heap} {r i : Nat} {f : Nat → Int32} (hR : sd_R g (n, lk, d, w, t, ee, q) H) (ha : sd_la (n, w, t) r i) (hz : H1.size = H.size) (oq : ∀ p : Nat, p ≠ sd_ad g r i → H1[p]? = H[p]?) (hc : sd_lc g (w, t, ev_w3 ee r i f, q) r i H1) : sd_R g (n, lk, d, w, t, ev_w3 ee r i f, q) H1 :=
  hR.lput ha hz oq (fun _ _ k _ h => sd_w3_off k h) (fun _ _ _ _ _ => rfl) hc (fun k j a b c => sd_lgd hR ha a b c)
/-- a reference written -/
theorem sd_R.lputr {H H1 : Heap} {r i k j : Nat} (hR : sd_R g (n, lk, d, w, t, ee, q) H) (ha : sd_la (n, w, t) r i) (hg : sd_gd (n, w, t) (sd_lr r k) j) (hz : H1.size = H.size) (oq : ∀ p : Nat, p ≠ sd_ad g r i → H1[p]? = H[p]?) (hc : sd_lc g (w, t, ee, ev_n3 q r i k (j + 1)) r i H1) : sd_R g (n, lk, d, w, t, ee, ev_n3 q r i k (j + 1)) H1 := by
  refine hR.lput ha hz oq (fun _ _ _ _ _ => rfl) (fun _ _ k _ h => sd_n3_off k h) hc (fun k' j' a b c => ?_)
  rw [sd_n3_on] at c
  by_cases z : k' = k
  · rw [if_pos z] at c
    have : j = j' := by omega
    rw [z, ← this]
    exact hg
  · rw [if_neg z] at c
    exact sd_lgd hR ha a b c
/-- a new object of the law's -/
theorem sd_lnewO (C : sd_cx p l R s m args meth c g mi) (hK : sd_K p l e R s m args below meth c Q g mi res μz K) {pc a cp r : Nat} {qq : vw_C} (hq : vwCl[a]? = some qq) (hd : decode (sd_cc mi) pc = .ok (.new cp, 3)) (hw : (Cond.classLink (sd_y mi).cls cp qq.1) ∈ sd_gw) (hkn : ev_ln r = (0, a)) (hr0 : 199 < r) (hr1 : r ≤ 215)
    {ls st : List ev_V} {cl sl : Nat} {H : Heap} {locs : List Loc} {vl : Array Slot} {vs : List Value}
    (hev : ev_mw r (ev_w3 ee r w (fun _ => 0)) pc 3 cl sl 1 (ev_lz a) mi ls st (n, lk, d, w, t, ee, q) K = some (res, μz)) (hl : sd_l g (n, w, t) (ev_ml mi) ls vl) (hs : sd_s g (n, w, t) st vs) (hS : va_S (sd_A g) s.heap H locs) (hR : sd_R g (n, lk, d, w, t, ee, q) H) : W p l e R s m args below meth c H locs cl sl Q (F0 m pc vl vs) := by
  obtain ⟨hx, hb, hml, hown, hts, hX, -, -, -, ⟨hrf, hrl, hrc, hrs⟩, -⟩ := C
  obtain ⟨⟨hn, hm1, hm2⟩, hev⟩ := sd_mw_eq hev
  have hck := sd_ck_ok a (sd_ci hq)
  unfold sd_ck at hck
  rw [hq] at hck
  have hck : (lw_tbl.any (fun w => decide (w = .instantiable qq.1 qq.2.2) && goodWord w) && lw_tbl.any (fun w => decide (w = .initialized qq.1) && goodWord w)) = true := hck
  simp only [Bool.and_eq_true] at hck
  obtain ⟨hSl, hfc, kC0, hkC0, hkind⟩ := hX.1.1 a _ hq
  obtain ⟨ty, hty⟩ := sd_tyo hq
  have hsz := sd_lsize hR hn hr0
  obtain ⟨enf, hfl⟩ := sd_lfl hr0 hr1 hkn hq
  rw [← enf] at hm2 hev
  refine W.newcK (g := F0 m pc vl vs) hx hb hown (hts _ hw) (hts _ (sd_any hck.1)) (hts _ (sd_any hck.2)) rfl hd (by rw [hrc]; exact hm1) (by rw [hrs]; exact hm2) hfc hsz fun H1 kC hkC e1 z1 o1 => ?_
  rw [← hsz] at o1 z1
  have hO := u_born ty hts (sd_lg hq) (hX.1.1 a _ hq) hkC e1 hty
  have hRn : sd_R g (n, lk, d, w + 1, ev_n1 t w r, ev_w3 ee r w (fun _ => 0), ev_z3 q r w) H1 := hR.lnew hn hr0 hr1 z1 o1 (fun r' i' k h9 hne => sd_w3_off k (fun z => hne z.2)) (by
    unfold sd_lc
    rw [hkn]
    refine ⟨qq, hq, t_OB.to hO (fun k hk => ?_)⟩
    show defaultValue (ty k) = (if ev_lf r k = true then sd_lu g (w + 1, ev_n1 t w r, ev_w3 ee r w (fun _ => 0), ev_z3 q r w) r w k else .int (ev_w3 ee r w (fun _ => 0) r w k))
    have hpk := hty k hk
    rcases hfl k hk with ⟨h1, t', h3, h4⟩ | ⟨h1, h3⟩
    · rw [h1, if_pos rfl]
      rw [h3] at hpk
      cases hpk
      have : sd_lu g (w + 1, ev_n1 t w r, ev_w3 ee r w (fun _ => 0), ev_z3 q r w) r w k = .null := by
        unfold sd_lu
        show (match ev_z3 q r w r w k with | 0 => Value.null | j + 1 => .ref (sd_ad g (sd_lr r k) j)) = _
        rw [sd_z3_on]
      rw [this]
      generalize ty k = t' at h4
      cases t' <;> first | rfl | cases h4
    · rw [h1, if_neg (by decide), sd_w3_on]
      rw [h3] at hpk
      have h9 : parseFieldDescriptor "Z" = some .boolean := by decide +kernel
      have h8 : parseFieldDescriptor "B" = some .byte := by decide +kernel
      have h7 : parseFieldDescriptor "I" = some .int := by decide +kernel
      unfold sd_fd at hpk
      split at hpk
      · rw [h9] at hpk; rw [← Option.some.inj hpk]; rfl
      · rw [h8] at hpk; rw [← Option.some.inj hpk]; rfl
      · rw [h7] at hpk; rw [← Option.some.inj hpk]; rfl)
  exact hK _ _ _ _ _ _ _ _ _ _ ⟨hm1, hm2⟩ hev (hl.mono sd_le2) ⟨sd_vr (sd_gd2 (sd_lnw hr0 hr1)) (sd_kr2 hr0), hs.mono sd_le2⟩ (sd_S.new hS (by omega) o1) hRn
/-- a new row of the law's -/
theorem sd_lnewA (C : sd_cx p l R s m args meth c g mi) (hK : sd_K p l e R s m args below meth c Q g mi res μz K) {pc a N r : Nat} {x : Int32} {e1 : Nat → Nat → Nat → Int32} (h0 : 0 < a) (h5 : a < 4) (hd : decode (sd_cc mi) pc = .ok (.newarray (sd_at4 a), 2)) (hr0 : 199 < r) (hr1 : r ≤ 215) (hx0 : ¬ x < 0) (hxN : x.toNatClampNeg = N) (hby : N * 8 ≤ 536870912)
    (he : ∀ r' i' k, 199 ≤ r' → i' ≠ w → e1 r' i' k = ee r' i' k) (hc : ∀ H1 : Heap, H1[sd_ad g r w]? = some (arrV (g.2.2.1 a) N (fun _ => .int 0)) → sd_lc g (w + 1, ev_n1 t w r, e1, ev_z3 q r w) r w H1)
    {ls st : List ev_V} {cl sl : Nat} {H : Heap} {locs : List Loc} {vl : Array Slot} {vs : List Value}
    (hev : ev_mw r e1 pc 2 cl sl 1 N mi ls st (n, lk, d, w, t, ee, q) K = some (res, μz)) (hl : sd_l g (n, w, t) (ev_ml mi) ls vl) (hs : sd_s g (n, w, t) st vs) (hS : va_S (sd_A g) s.heap H locs) (hR : sd_R g (n, lk, d, w, t, ee, q) H) : W p l e R s m args below meth c H locs cl sl Q (F0 m pc vl (.int x :: vs)) := by
  obtain ⟨hx, hb, hml, hown, hts, hX, -, -, -, ⟨hrf, hrl, hrc, hrs⟩, -⟩ := C
  obtain ⟨⟨hn, hm1, hm2⟩, hev⟩ := sd_mw_eq hev
  have hsz := sd_lsize hR hn hr0
  have hbytes : N * componentBytes (newarray.typeOf (sd_at4 a)) ≤ 536870912 := by
    have : componentBytes (newarray.typeOf (sd_at4 a)) ≤ 8 := by
      match a, h0, h5 with
      | 1, _, _ => decide
      | 2, _, _ => decide
      | 3, _, _ => decide
    exact Nat.le_trans (Nat.mul_le_mul_left N this) hby
  refine va_newaK (g := F0 m pc vl (.int x :: vs)) hx hb (hts _ (sd_any (sd_aw_ok a h5))) rfl hd rfl hx0 hxN hbytes (by rw [hrc]; exact hm1) (by rw [hrs]; exact hm2) hsz fun H1 cA e2 z1 o1 hAr hNm => ?_
  rw [← hsz] at o1 z1
  have hcA : cA = g.2.2.1 a := by
    have h9 := (hX.1.2 _ _ (sd_tk h0 h5)).2
    have h8 : s.vm.findClass ("[" ++ (newarray.typeOf (sd_at4 a)).toString) = some (g.2.2.1 a) := by
      match a, h0, h5, h9 with
      | 1, _, _, h9 => exact h9
      | 2, _, _, h9 => exact h9
      | 3, _, _, h9 => exact h9
    exact Option.some.inj (hNm.symm.trans h8)
  subst hcA
  have hdv : defaultValue (newarray.typeOf (sd_at4 a)) = .int 0 := by
    match a, h0, h5 with
    | 1, _, _ => rfl
    | 2, _, _ => rfl
    | 3, _, _ => rfl
  rw [hdv] at e2
  have hRn : sd_R g (n, lk, d, w + 1, ev_n1 t w r, e1, ev_z3 q r w) H1 := hR.lnew hn hr0 hr1 z1 o1 he (hc H1 e2)
  exact hK _ _ _ _ _ _ _ _ _ _ ⟨hm1, hm2⟩ hev (hl.mono sd_le2) ⟨sd_vr (sd_gd2 (sd_lnw hr0 hr1)) (sd_kr2 hr0), hs.mono sd_le2⟩ (sd_S.new hS (by omega) o1) hRn
/-- a new row of references of the law's -/
theorem sd_lnewR (C : sd_cx p l R s m args meth c g mi) (hK : sd_K p l e R s m args below meth c Q g mi res μz K) {pc cp N r kk : Nat} {x : Int32} {nm : String} (hd : decode (sd_cc mi) pc = .ok (.anewarray cp, 3)) (hw : (Cond.classLink (sd_y mi).cls cp nm) ∈ sd_gw) (hkn : ev_ln r = (5, N)) (hr0 : 199 < r) (hr1 : r ≤ 215) (hty : ∃ k0 : Nat, (sd_ty g)[k0]? = some (g.2.2.1 kk, FieldType.object nm)) (hkk : kk = if r = 207 then 4 else 6) (hav : lw_tbl.any (fun x => decide (x = .arrayOver (.object nm))) = true) (hx0 : ¬ x < 0) (hxN : x.toNatClampNeg = N) (hby : N * 4 ≤ 536870912)
    {ls st : List ev_V} {cl sl : Nat} {H : Heap} {locs : List Loc} {vl : Array Slot} {vs : List Value}
    (hev : ev_mw r (ev_w3 ee r w (fun _ => 0)) pc 3 cl sl 1 N mi ls st (n, lk, d, w, t, ee, q) K = some (res, μz)) (hl : sd_l g (n, w, t) (ev_ml mi) ls vl) (hs : sd_s g (n, w, t) st vs) (hS : va_S (sd_A g) s.heap H locs) (hR : sd_R g (n, lk, d, w, t, ee, q) H) : W p l e R s m args below meth c H locs cl sl Q (F0 m pc vl (.int x :: vs)) := by
  obtain ⟨hx, hb, hml, hown, hts, hX, -, -, -, ⟨hrf, hrl, hrc, hrs⟩, -⟩ := C
  obtain ⟨⟨hn, hm1, hm2⟩, hev⟩ := sd_mw_eq hev
  have hsz := sd_lsize hR hn hr0
  have hover : va_AO nm s := by
    obtain ⟨w', h1, h2⟩ := List.any_eq_true.mp hav
    have h2 := of_decide_eq_true h2
    subst h2
    exact hX.2.1 _ h1 rfl
  refine W.anew (g := F0 m pc vl (.int x :: vs)) hx hb hown (hts _ hw) (va_AO.use hover) rfl hd rfl hx0 (by rw [hxN]; exact hby) (by rw [hrc]; exact hm1) (by rw [hrs, hxN]; exact hm2) fun cA kA comp f1 f2 f3 f4 => ?_
  generalize hH1 : H.push ({ cls := cA, slots := Array.replicate x.toNatClampNeg .null, vm := .none } : Cell) = H1
  have z1 : H1.size = H.size + 1 := by rw [← hH1, Array.size_push]
  have e1 : H1[H.size]? = some (arrV cA N (fun _ => .null)) := by rw [← hH1, Array.getElem?_push_size, ← hxN, ← arrV_new]
  have o1 : ∀ q : Nat, q < H.size → H1[q]? = H[q]? := fun q hq => by rw [← hH1, Array.getElem?_push, if_neg (Nat.ne_of_lt hq)]
  have hcA : cA = g.2.2.1 kk := by
    obtain ⟨k0, hk0⟩ := hty
    obtain ⟨kA2, comp2, g1, g2, g3, g4⟩ := (hX.1.2 k0 _ hk0).2
    first
    | exact Option.some.inj (f1.symm.trans g4)
    | exact Option.some.inj (g4.symm.trans f1).symm
  subst hcA
  have hRn : sd_R g (n, lk, d, w + 1, ev_n1 t w r, ev_w3 ee r w (fun _ => 0), ev_z3 q r w) H1 := hR.lnew hn hr0 hr1 z1 o1 (fun r' i' k h9 hne => sd_w3_off k (fun z => hne z.2)) (by
    refine sd_l5' hkn ?_
    have e9 : (fun k => sd_lu g (w + 1, ev_n1 t w r, ev_w3 ee r w (fun _ => 0), ev_z3 q r w) r w k) = fun _ => Value.null := by
      funext k
      unfold sd_lu
      show (match ev_z3 q r w r w k with | 0 => Value.null | j + 1 => .ref (sd_ad g (sd_lr r k) j)) = _
      rw [sd_z3_on]
    rw [e9, ← hsz, e1, hkk])
  rw [hsz, hxN]
  exact hK _ _ _ _ _ _ _ _ _ _ ⟨hm1, hm2⟩ hev (hl.mono sd_le2) ⟨sd_vr (sd_gd2 (sd_lnw hr0 hr1)) (sd_kr2 hr0), hs.mono sd_le2⟩ (sd_S.new hS (by omega) o1) hRn
end SD7H
/-! SOUNDNESS, 12d: copies, and all of the law's instructions -/
def sd_cln : Bool := sd_w9 (.sameMethod "[B" "java/lang/Object" "clone" "()Ljava/lang/Object;") && (sd_w9 (.native (sd_cloneY "java/lang/Object")) && (sd_w9 (.instanceMethod (sd_cloneY "java/lang/Object")) && (sd_w9 (.selects "[B" (sd_cloneY "[B") (sd_cloneY "java/lang/Object")) && lw_tbl.any (fun x => decide (x = .castable "[B" "java/lang/Cloneable")))))
theorem sd_cln_ok : sd_cln = true := by decide +kernel
section SD7I
variable {p : Program} {l : Launch} {e : Env} {R : Room} {s : State} {m : MethodId} {args : Array Value} {below : List Frame} {meth : Method} {c : Code} {Q : State → Prop} {g : sd_G} {mi : Nat} {res : ev_O} {μz : ev_M} {K : ev_K}
variable {n w : Nat} {lk : Nat → Nat → Nat → Bool} {d ee : Nat → Nat → Nat → Int32} {t : Nat → Nat} {q : Nat → Nat → Nat → Nat}
/-- arraycopy between rows of one type of numbers -/
theorem sd_copyT (C : sd_cx p l R s m args meth c g mi) {pc cp : Nat} (hd : decode (sd_cc mi) pc = .ok (.invokestatic cp, 3)) (hw : (Cond.methodLink (sd_y mi).cls cp arraycopyName) ∈ sd_gw) (hfr : 1 ≤ ev_fr mi) (hlr : 8 + (nativeFrameWords "java/lang/System" "arraycopy" 5 + 11) ≤ ev_lr mi)
    {cl sl : Nat} {H : Heap} {locs : List Loc} {vl : Array Slot} {rest : List Value} {b0 n0 a n1 : Nat} {f h : Nat → Int32} {scr : Cell} {c1 : ClassId} {sp dp n : Int32} {ty : FieldType} (hty : ty = .int ∨ ty = .byte ∨ ty = .boolean)
    (hc0 : H[b0]? = some scr) (hs2 : s.isArrayOf scr ty) (hs3 : scr.vm ≠ .unknown) (hs4 : n0 ≤ scr.slots.size) (hs5 : ∀ j : Nat, j < n0 → scr.slots[j]? = some (.int (f j))) (hfit : ∀ j : Nat, j < n0 → fits ty (.int (f j)) = true)
    (hc1 : H[a]? = some (arrV c1 n1 (fun j => .int (h j)))) (ht1 : ∀ (N : Nat) (z : Nat → Value), s.isArrayOf (arrV c1 N z) ty) (hsize : vl.size = ev_ml mi) (hS : va_S (sd_A g) s.heap H locs) (haA : sd_A g a) (hwd : (rest.map fun v => v.category).sum ≤ 8)
    (h1 : ¬ sp < 0) (h2 : ¬ dp < 0) (h3 : ¬ n < 0) (h4 : sp.toNatClampNeg + n.toNatClampNeg ≤ n0) (h5 : dp.toNatClampNeg + n.toNatClampNeg ≤ n1)
    (kk : ∀ (H1 : Heap) (locs1 : List Loc), H1[a]? = some (arrV c1 n1 (fun j => .int (va_cpy f h sp.toNatClampNeg dp.toNatClampNeg n.toNatClampNeg j))) → H1.size = H.size → (∀ q : Nat, q ≠ a → H1[q]? = H[q]?) → va_S (sd_A g) s.heap H1 locs1 → W p l e R s m args below meth c H1 locs1 cl sl Q (F0 m (pc + 3) vl rest)) :
    W p l e R s m args below meth c H locs cl sl Q (F0 m pc vl (.int n :: .int dp :: .ref a :: .int sp :: .ref b0 :: rest)) := by
  obtain ⟨hx, hb, hml, hown, hts, hX, -, -, -, ⟨hrf, hrl, hrc, hrs⟩, -⟩ := C
  have nn : ∀ z : Int32, ¬ z < 0 → z.toInt = (z.toNatClampNeg : Int) := by
    intro z hz
    have hz0 : (0 : Int) ≤ z.toInt := by
      have := Int32.not_lt.mp hz
      simpa using Int32.le_iff_toInt_le.mp this
    show z.toInt = ((z.toInt.toNat : Nat) : Int)
    omega
  intro T hT X
  obtain ⟨hs6, k0, hk0, cm0, hkk0⟩ := hs2
  obtain ⟨-, k1, hk1, cm1, hkk1⟩ := ht1 n1 (fun j => .int (h j))
  obtain ⟨vm', X', step⟩ := X.arraycopy hx hown (hts _ hw) (hts _ (sd_any sd_ao_ok.1)) (hts _ (sd_any sd_ao_ok.2.1)) (hts _ (sd_any sd_ao_ok.2.2)) (src := b0) (dst := a) (cs := scr) (cd := arrV c1 n1 (fun j => .int (h j))) (srcPos := sp) (destPos := dp) (n := n) (by rw [hT]; exact hc0) (by rw [hT]; exact hc1)
    hs6 (fun _ h => by cases h) hs3 (fun h => by cases h) hk0 hk1 hkk0 hkk1 (by rcases hty with rfl | rfl | rfl <;> simp [refKind]) h1 h2 h3
    (by rw [nn sp h1, nn n h3]; omega)
    (by rw [nn dp h2, nn n h3]; show ¬ _ > ((arrV c1 n1 (fun j => .int (h j))).slots.size : Int); rw [arrV_size]; omega)
    (fun vm₁ _ i hi => by
      have e : scr.slots.getD (sp.toNatClampNeg + i) .null = .int (f (sp.toNatClampNeg + i)) := by
        rw [Array.getD_eq_getD_getElem?, hs5 _ (by omega)]
        rfl
      refine ⟨?_, ?_⟩
      · rw [e]
        exact hfit _ (by omega)
      · rw [e]
        exact trivial)
    (g := F0 m pc vl (.int n :: .int dp :: .ref a :: .int sp :: .ref b0 :: rest)) rfl (by rw [hml]; exact hsize) (rest := rest) rfl (by rw [hb]; exact hd) (by rw [hrf]; exact hfr) (by rw [hrl]; show 2 * 0 + _ + _ ≤ _; omega)
  have e1 : copied scr (arrV c1 n1 (fun j => .int (h j))) sp dp n = arrV c1 n1 (fun j => .int (va_cpy f h sp.toNatClampNeg dp.toNatClampNeg n.toNatClampNeg j)) := va_copiedX (fun z => .int z) scr c1 f h hs5 h4
  rw [e1] at X' step
  generalize hcell : arrV c1 n1 (fun j => .int (va_cpy f h sp.toNatClampNeg dp.toNatClampNeg n.toNatClampNeg j)) = ce at X' step kk
  have hl : a < H.size := (Array.getElem?_eq_some_iff.mp hc1).1
  have hheap : ((T.setVm vm').setCell a ce).heap = H.setIfInBounds a ce := by rw [← hT]; rfl
  have oq : ∀ q : Nat, q ≠ a → (H.setIfInBounds a ce)[q]? = H[q]? := fun q hq => by simp [Array.getElem?_setIfInBounds, Ne.symm hq]
  obtain ⟨t, a1, b1⟩ := kk (H.setIfInBounds a ce) _ (show (H.setIfInBounds a _)[a]? = some _ by simp [Array.getElem?_setIfInBounds, hl]) (by simp) oq ⟨by simp; exact hS.1, fun q g1 g2 => by
      rw [oq q (fun e => g2 (by rw [e]; exact haA))]
      exact hS.2.1 q g1 g2, fun q hq => by
      rcases List.mem_append.mp hq with h | h
      · exact hS.2.2 q h
      · obtain ⟨z, -, hz⟩ := List.mem_map.mp h
        rw [← hz]
        exact haA⟩ _ hheap X'
  exact ⟨t, step t a1, b1⟩
/-- a row of bytes cloned -/
theorem sd_clone (C : sd_cx p l R s m args meth c g mi) (hK : sd_K p l e R s m args below meth c Q g mi res μz K) {pc cp i : Nat} (hd : decode (sd_cc mi) pc = .ok (.invokevirtual cp, 3)) (hw : (Cond.methodLink (sd_y mi).cls cp (sd_cloneY "[B")) ∈ sd_gw) (hfr : 1 ≤ ev_fr mi) (hlr : 22 ≤ ev_lr mi)
    {ls st : List ev_V} {cl sl : Nat} {H : Heap} {locs : List Loc} {vl : Array Slot} {vs : List Value} (ha : sd_la (n, w, t) 214 i) (hwd : (vs.map fun v => v.category).sum ≤ 8)
    (hev : ev_mw 214 (ev_u3 (ev_w3 ee 214 w (ee 214 i)) 199 w 0 (ee 199 i 0)) pc 3 cl sl 1 (ee 199 i 0).toNatClampNeg mi ls st (n, lk, d, w, t, ee, q) K = some (res, μz)) (hl : sd_l g (n, w, t) (ev_ml mi) ls vl) (hs : sd_s g (n, w, t) st vs) (hS : va_S (sd_A g) s.heap H locs) (hR : sd_R g (n, lk, d, w, t, ee, q) H) : W p l e R s m args below meth c H locs cl sl Q (F0 m pc vl (.ref (sd_ad g 214 i) :: vs)) := by
  obtain ⟨hx, hb, hml, hown, hts, hX, -, -, -, ⟨hrf, hrl, hrc, hrs⟩, -⟩ := C
  obtain ⟨⟨hn, hm1, hm2⟩, hev⟩ := sd_mw_eq hev
  have hsz := sd_lsize (r := 214) hR hn (by omega)
  have hcw := sd_cln_ok
  simp only [sd_cln, Bool.and_eq_true] at hcw
  obtain ⟨w1, w2, w3, w4, w5⟩ := hcw
  have hcl : va_Nw (.castable "[B" "java/lang/Cloneable") s := hX.2.1 _ (sd_inw w5) rfl
  obtain ⟨hcell, h199, hbf⟩ := sd_l2 (sd_lcl hR ha) (n := 0) rfl
  have hcell : H[sd_ad g 214 i]? = some (arrV (g.2.2.1 2) (ee 199 i 0).toNatClampNeg (fun k => .int (ee 214 i k))) := hcell
  have hbf : ∀ k, k < (ee 199 i 0).toNatClampNeg → fits .byte (.int (ee 214 i k)) = true := hbf
  obtain ⟨hAr, hRA⟩ := hX.1.2 1 _ rfl
  have hnm : s.vm.findClass "[B" = some (g.2.2.1 2) := va_nm_byte hRA
  obtain ⟨c0, t0, f1, f2, f3⟩ := Cond.castable_spec (va_Nw.use (A := args) rfl hcl)
  cases hnm.symm.trans f1
  intro T hT X
  have hcellT : T.heap[sd_ad g 214 i]? = some (arrV (g.2.2.1 2) (ee 199 i 0).toNatClampNeg (fun k => .int (ee 214 i k))) := by rw [hT]; exact hcell
  obtain ⟨-, kA, hkA, comp, hkind⟩ := State.isArrayOf_alike X.warmed.alike (hAr 0 (fun _ => .null))
  obtain ⟨-, kS, hkS, compS, hkindS⟩ := hAr 0 (fun _ => .null)
  obtain ⟨vm', X', st'⟩ := X.cloneArray hx hown (hts _ hw) (hts _ (sd_w9_in w1)) (hts _ (sd_w9_in w2)) (hts _ (sd_w9_in w3)) (hts _ (sd_w9_in w4)) (a := sd_ad g 214 i) (cell := arrV (g.2.2.1 2) (ee 199 i 0).toNatClampNeg (fun k => .int (ee 214 i k))) hcellT (fun k h => by cases h) (fun h => by cases h) hnm f2 f3
    (fun j v hv => by
      have hk' : T.vm.classes[(arrV (g.2.2.1 2) (ee 199 i 0).toNatClampNeg (fun k => Value.int (ee 214 i k))).cls]? = some kA := hkA
      have := va_fit (ty := .byte) hbf j v hv
      simpa [State.fitsSlot, State.slotType?, hk', hkind] using this)
    (g := F0 m pc vl (.ref (sd_ad g 214 i) :: vs)) rfl (by rw [hml]; exact hl.1) rfl (by rw [hb]; exact hd) (by rw [hrf]; exact hfr) (by rw [hrl]; show 2 * 0 + _ + 14 ≤ _; omega) (by rw [hrc]; exact hm1) (by rw [hrs, arrV_size]; exact hm2) (hloader := Vm.clonesLoader_of_array hkS hkindS)
  have hcellE : ({ cls := (arrV (g.2.2.1 2) (ee 199 i 0).toNatClampNeg (fun k => Value.int (ee 214 i k))).cls, slots := (arrV (g.2.2.1 2) (ee 199 i 0).toNatClampNeg (fun k => Value.int (ee 214 i k))).slots } : Cell) = arrV (g.2.2.1 2) (ee 199 i 0).toNatClampNeg (fun k => .int (ee 214 i k)) := rfl
  rw [hcellE, arrV_size] at X'
  generalize hH1 : H.push (arrV (g.2.2.1 2) (ee 199 i 0).toNatClampNeg (fun k => Value.int (ee 214 i k))) = H1
  have z1 : H1.size = H.size + 1 := by rw [← hH1, Array.size_push]
  have e1 : H1[H.size]? = some (arrV (g.2.2.1 2) (ee 199 i 0).toNatClampNeg (fun k => Value.int (ee 214 i k))) := by rw [← hH1, Array.getElem?_push_size]
  have o1 : ∀ q : Nat, q < H.size → H1[q]? = H[q]? := fun q hq => by rw [← hH1, Array.getElem?_push, if_neg (Nat.ne_of_lt hq)]
  have h9 : ∀ k, ev_u3 (ev_w3 ee 214 w (ee 214 i)) 199 w 0 (ee 199 i 0) 214 w k = ee 214 i k := fun k => by rw [sd_u3_off k (fun z => by omega), sd_w3_on]
  have h8 : ev_u3 (ev_w3 ee 214 w (ee 214 i)) 199 w 0 (ee 199 i 0) 199 w 0 = ee 199 i 0 := by rw [sd_u3_on, if_pos rfl]
  have hRn : sd_R g (n, lk, d, w + 1, ev_n1 t w 214, ev_u3 (ev_w3 ee 214 w (ee 214 i)) 199 w 0 (ee 199 i 0), ev_z3 q 214 w) H1 := hR.lnew hn (by omega) (by omega) z1 o1 (fun r' i' k _ hne => by rw [sd_u3_off k (fun z => hne z.2), sd_w3_off k (fun z => hne z.2)]) (by
    refine sd_l2' (n := 0) rfl ?_
    show H1[sd_ad g 214 w]? = some (arrV (g.2.2.1 2) (ev_u3 (ev_w3 ee 214 w (ee 214 i)) 199 w 0 (ee 199 i 0) 199 w 0).toNatClampNeg (fun k => .int (ev_u3 (ev_w3 ee 214 w (ee 214 i)) 199 w 0 (ee 199 i 0) 214 w k))) ∧ ev_u3 (ev_w3 ee 214 w (ee 214 i)) 199 w 0 (ee 199 i 0) 199 w 0 = Int32.ofNat (ev_u3 (ev_w3 ee 214 w (ee 214 i)) 199 w 0 (ee 199 i 0) 199 w 0).toNatClampNeg ∧ ∀ k, k < (ev_u3 (ev_w3 ee 214 w (ee 214 i)) 199 w 0 (ee 199 i 0) 199 w 0).toNatClampNeg → fits .byte (.int (ev_u3 (ev_w3 ee 214 w (ee 214 i)) 199 w 0 (ee 199 i 0) 214 w k)) = true
    simp only [h8, h9]
    exact ⟨by rw [← hsz]; exact e1, h199, hbf⟩)
  have kz : W p l e R s m args below meth c H1 locs (cl + 1) (sl + (ee 199 i 0).toNatClampNeg) Q (F0 m (pc + 3) vl (.ref (sd_ad g 214 w) :: vs)) := hK _ _ _ _ _ _ _ _ _ _ ⟨hm1, hm2⟩ hev (hl.mono sd_le2) ⟨sd_vr (sd_gd2 (sd_lnw (by omega) (by omega))) (sd_kr2 (by omega)), hs.mono sd_le2⟩ (sd_S.new hS (by omega) o1) hRn
  obtain ⟨t', b1, b2⟩ := kz ((T.setVm vm').pushCell (arrV (g.2.2.1 2) (ee 199 i 0).toNatClampNeg (fun k => .int (ee 214 i k)))) (by rw [← hH1, ← hT]; rfl) X'
  refine ⟨t', st' t' ?_, b2⟩
  rw [hcellE, hT, hsz]
  exact b1
end SD7I
