section SDC
variable {p : Program} {l : Launch} {e : Env} {R : Room} {s : State} {m : MethodId} {args : Array Value} {below : List Frame} {meth : Method} {c : Code} {Q : State → Prop} {g : sd_G} {mi : Nat} {res : ev_O} {μz : ev_M} {K : ev_K}
theorem sd_nil1 {g : sd_G} {n : sd_N} {x : Value} {vs : List Value} (h : sd_s g n [] vs) : vs = [] := h.nil
/-- a row of ints is copied to -/
theorem sd_R.cpy {n : Nat} {lk : Nat → Nat → Nat → Bool} {d : Nat → Nat → Nat → Int32} {o : ev_W} {H H1 : Heap} {r i N : Nat} {f : Nat → Int32} (h : sd_R g (n, lk, d, o) H) (hkn : ev_kn r = (1, N)) (ha : sd_al (n, o.1, o.2.1) r i) (hz : H1.size = H.size) (oq : ∀ q : Nat, q ≠ sd_ad g r i → H1[q]? = H[q]?)
    (hc : H1[sd_ad g r i]? = some (arrV (g.2.2.1 1) N (fun j => .int (f j)))) : sd_R g (n, lk, ev_w3 d r i f, o) H1 := by
  have hr : r < 62 := sd_kn62 (by rw [hkn]; show 1 < 6; decide)
  refine h.put hr ha rfl hz oq (fun _ _ _ _ => rfl) (fun _ _ k h => sd_w3_off k h) rfl (sd_cell' hkn (by decide) (by decide) ?_) (fun k a b c => h.lks hr ha k a b c)
  rw [hc]
  congr 2
  funext k
  show Value.int (f k) = .int (ev_w3 d r i f r i k)
  rw [sd_w3_on]
theorem sd_g4 (C : sd_cx p l R s m args meth c g mi) (hK : sd_K p l e R s m args below meth c Q g mi res μz K) {call : ev_F → ev_M → ev_T} (hP : sd_P l g call) (hX : sd_E p l e R s m args below meth c Q g mi res μz) {pc h a b len : Nat} {tb : List Nat} (hck : sd_k4 mi pc h a b len tb = true) {ls st : List ev_V} {μ : ev_M} {cl sl : Nat} {H : Heap} {locs : List Loc} {vl : Array Slot} {vs : List Value}
    (hev : ev_g4 call mi h a b len tb pc ls st μ cl sl K = some (res, μz)) (hl : sd_l g (sd_nn μ) (ev_ml mi) ls vl) (hs : sd_s g (sd_nn μ) st vs) (hS : va_S (sd_A g) s.heap H locs) (hR : sd_R g μ H) (hcs : cl ≤ ev_mc mi ∧ sl ≤ ev_ms mi) : W p l e R s m args below meth c H locs cl sl Q (F0 m pc vl vs) := by
  have C0 := C
  obtain ⟨hx, hb, hml, hown, hts, hXs, hlk, htr, hz, ⟨hrf, hrl, hrc, hrs⟩, -⟩ := C
  have hArr := sd_arr hXs.1
  unfold ev_g4 at hev
  unfold sd_k4 at hck
  split at hev
  · -- new
    split at hev
    · rename_i x0 x1 mode r tl
      simp only [Bool.and_eq_true, decide_eq_true_eq] at hck
      obtain ⟨hd, hlen, hkn, h44, hq⟩ := hck
      have el := Nat.eq_of_beq_eq_true hlen
      subst el
      obtain ⟨n, lk, d, o⟩ := μ
      cases hq9 : vwCl[a]? with
      | none => rw [hq9] at hq; cases hq
      | some q =>
        rw [hq9] at hq
        exact sd_newO C0 hK hq9 (sd_is_eq hd) (sd_at_in (show sd_at _ (.classLink _ _ q.1) = true from hq)) hkn (Nat.le_of_ble_eq_true h44) hev hl hs hS hR
    · cases hev
  · -- newarray
    split at hev
    · rename_i x0 r mode tl
      simp only [Bool.and_eq_true, decide_eq_true_eq] at hck
      obtain ⟨hd, hlen, h0, h5, h44, hby⟩ := hck
      have el := Nat.eq_of_beq_eq_true hlen
      subst el
      split at hev
      · rename_i x rest
        obtain ⟨hc, hev⟩ := sd_bif hev
        simp only [Bool.and_eq_true, Bool.not_eq_true', decide_eq_false_iff_not] at hc
        obtain ⟨n, lk, d, o⟩ := μ
        obtain ⟨vs', rfl, hs'⟩ := hs.consI
        exact sd_newA C0 hK (N := (ev_kn r).2) (Nat.le_of_ble_eq_true h0) (Nat.le_of_ble_eq_true h5) (sd_is_eq hd) (Prod.ext (Nat.eq_of_beq_eq_true hc.2.1) rfl) (Nat.le_of_ble_eq_true h44) hc.1 (Nat.eq_of_beq_eq_true hc.2.2).symm (Nat.le_of_ble_eq_true hby) hev hl hs' hS hR
      · cases hev
    · cases hev
  · -- anewarray
    split at hev
    · rename_i x0 x1 r mode tl
      simp only [Bool.and_eq_true, decide_eq_true_eq] at hck
      obtain ⟨hd, hlen, hw, h44, hby⟩ := hck
      have el := Nat.eq_of_beq_eq_true hlen
      subst el
      split at hev
      · rename_i x rest
        obtain ⟨hc, hev⟩ := sd_bif hev
        simp only [Bool.and_eq_true, Bool.not_eq_true', decide_eq_false_iff_not] at hc
        obtain ⟨n, lk, d, o⟩ := μ
        obtain ⟨vs', rfl, hs'⟩ := hs.consI
        exact sd_newR C0 hK (N := (ev_kn r).2) (sd_is_eq hd) (sd_at_in hw) (Prod.ext (Nat.eq_of_beq_eq_true hc.2.1) rfl) (Nat.le_of_ble_eq_true h44) hc.1 (Nat.eq_of_beq_eq_true hc.2.2).symm (Nat.le_of_ble_eq_true hby) hev hl hs' hS hR
      · cases hev
    · cases hev
  · -- Object.<init>
    split at hev
    · rename_i r i rest
      obtain ⟨hc, hev⟩ := sd_bif hev
      simp only [Bool.and_eq_true] at hck hc
      obtain ⟨hd, hlen, hw, hf1, hl20⟩ := hck
      have el := Nat.eq_of_beq_eq_true hlen
      subst el
      have hr : r < 62 := Nat.le_of_ble_eq_true hc.1
      obtain ⟨vs', rfl, hg, hs'⟩ := hs.consR (by omega)
      have h8 : ev_wd rest ≤ 8 := Nat.le_of_ble_eq_true hc.2
      have h9 := sd_wdc hs'
      have hl20 : 20 ≤ ev_lr mi := Nat.le_of_ble_eq_true hl20
      exact W.objInit (g := F0 m pc vl (.ref (sd_ad g r i) :: vs')) hx hb hown (hts _ (sd_at_in hw)) (hts _ (sd_any sd_oi_ok.1)) (hts _ (sd_any sd_oi_ok.2)) rfl (hl.1.trans hml.symm) rfl (sd_is_eq hd) (by rw [hrf]; exact Nat.le_of_ble_eq_true hf1) (by rw [hrl]; show 2 * 0 + _ + 12 ≤ _; omega)
        (hK _ _ _ _ _ _ _ _ _ _ hcs hev hl hs' hS hR)
    · cases hev
  · -- calls: an int
    obtain ⟨hr, hev⟩ := sd_cl_eq hev
    cases hcall : call (a, 0, (st.take b).reverse, [], 0, 0) μ with
    | none => rw [hcall] at hev; cases hev
    | some t =>
      obtain ⟨o1, μ1⟩ := t
      rw [hcall] at hev
      refine sd_calls C0 hK hP hX hck hr hcall hl hs hS hR (fun z hz => ?_) (fun E hE => ?_)
      · subst hz
        match z, hev with
        | some (.inl (.inl y)), hev => exact hev
        | none, hev => exact absurd hev (by intro q; cases q)
        | some (.inl (.inr y)), hev => exact absurd hev (by intro q; cases q)
        | some (.inr y), hev => exact absurd hev (by intro q; cases q)
      · subst hE; exact hev
  · -- calls: nothing
    obtain ⟨hr, hev⟩ := sd_cl_eq hev
    cases hcall : call (a, 0, (st.take b).reverse, [], 0, 0) μ with
    | none => rw [hcall] at hev; cases hev
    | some t =>
      obtain ⟨o1, μ1⟩ := t
      rw [hcall] at hev
      refine sd_calls C0 hK hP hX hck hr hcall hl hs hS hR (fun z hz => ?_) (fun E hE => ?_)
      · subst hz
        match z, hev with
        | none, hev => exact hev
        | some y, hev => exact absurd hev (by intro q; cases q)
      · subst hE; exact hev
  · -- calls: a reference
    obtain ⟨hr, hev⟩ := sd_cl_eq hev
    cases hcall : call (a, 0, (st.take b).reverse, [], 0, 0) μ with
    | none => rw [hcall] at hev; cases hev
    | some t =>
      obtain ⟨o1, μ1⟩ := t
      rw [hcall] at hev
      refine sd_calls C0 hK hP hX hck hr hcall hl hs hS hR (fun z hz => ?_) (fun E hE => ?_)
      · subst hz
        match z, hev with
        | some (.inr (.inr (r, i))), hev => exact hev
        | none, hev => exact absurd hev (by intro q; cases q)
        | some (.inl y), hev => exact absurd hev (by intro q; cases q)
        | some (.inr (.inl y)), hev => exact absurd hev (by intro q; cases q)
      · subst hE; exact hev
  · -- calls: a double
    obtain ⟨hr, hev⟩ := sd_cl_eq hev
    cases hcall : call (a, 0, (st.take b).reverse, [], 0, 0) μ with
    | none => rw [hcall] at hev; cases hev
    | some t =>
      obtain ⟨o1, μ1⟩ := t
      rw [hcall] at hev
      refine sd_calls C0 hK hP hX hck hr hcall hl hs hS hR (fun z hz => ?_) (fun E hE => ?_)
      · subst hz
        match z, hev with
        | some (.inr (.inl y)), hev => exact hev
        | none, hev => exact absurd hev (by intro q; cases q)
        | some (.inl y), hev => exact absurd hev (by intro q; cases q)
        | some (.inr (.inr y)), hev => exact absurd hev (by intro q; cases q)
      · subst hE; exact hev
  · -- arraycopy
    obtain ⟨n, lk, d, o⟩ := μ
    dsimp only at hev
    simp only [Bool.and_eq_true] at hck
    obtain ⟨hd, hlen, hw, hf1, hf2⟩ := hck
    have el := Nat.eq_of_beq_eq_true hlen
    subst el
    split at hev
    · rename_i k dp r2 i2 sp r1 i1 rest
      split at hev
      · rename_i n2 hk2
        have hr2 : r2 < 62 := sd_kn62 (by rw [hk2]; show 1 < 6; decide)
        obtain ⟨v1, rfl, hs1⟩ := hs.consI
        obtain ⟨v2, rfl, hs2⟩ := hs1.consI
        obtain ⟨v3, rfl, hg2, hs3⟩ := hs2.consR (by omega)
        obtain ⟨v4, rfl, hs4⟩ := hs3.consI
        have ha2 := sd_al62 hg2 hr2
        have hcell2 := sd_cell (hR.1 r2 i2 hr2 ha2) hk2 (by decide) (by decide)
        split at hev
        · rename_i n1 hk1
          have hr1 : r1 < 62 := sd_kn62 (by rw [hk1]; show 1 < 6; decide)
          obtain ⟨v5, rfl, hg1, hs5⟩ := hs4.consR (by omega)
          obtain ⟨hc, hev⟩ := sd_bif hev
          simp only [Bool.and_eq_true, Bool.not_eq_true', decide_eq_false_iff_not] at hc
          obtain ⟨c1, c2, c3, c4, c5, c6⟩ := hc
          have hcell1 := sd_cell (hR.1 r1 i1 hr1 (sd_al62 hg1 hr1)) hk1 (by decide) (by decide)
          refine sd_copy C0 (n0 := n1) (f := d r1 i1) (h := d r2 i2) (sd_is_eq hd) (sd_at_in hw) (Nat.le_of_ble_eq_true hf1) (Nat.le_of_ble_eq_true hf2) hcell1 (hArr.1 _ _) (fun q => by cases q) (by rw [arrV_size]; exact Nat.le_refl _) (fun j hj => by rw [arrV_read _ _ hj]) hcell2 hArr.1 hl.1 hS (sd_ad_ge hr2) (Nat.le_trans (sd_wdc hs5) (Nat.le_of_ble_eq_true c3)) c2 c1 c4 (Nat.le_of_ble_eq_true c5) (Nat.le_of_ble_eq_true c6) fun H1 locs1 e1 z1 oq hS1 => ?_
          exact hK _ _ _ _ _ _ _ _ _ _ hcs hev hl hs5 hS1 (hR.cpy hk2 ha2 z1 oq e1)
        · rename_i n1 hk1
          have er := sd_kn789.2.1 hk1
          subst er
          obtain ⟨v5, rfl, hg1, hs5⟩ := hs4.consR (by decide)
          obtain ⟨hc, hev⟩ := sd_bif hev
          simp only [Bool.and_eq_true, Bool.not_eq_true', decide_eq_false_iff_not] at hc
          obtain ⟨c1, c2, c3, c4, c5, c6⟩ := hc
          obtain ⟨scr, t1, t2, t3, t4, -, t5, t7⟩ := ((hXs.2.2.2.2.1 i1 (by have := hg1.2.2.1 rfl; omega)).1 (hg1.2.2.1 rfl)).2
          have hc0 : H[g.2.2.2.2.2.1 i1]? = some scr := by rw [hS.2.1 _ (Array.getElem?_eq_some_iff.mp t1).1 t7]; exact t1
          refine sd_copy C0 (n0 := 7) (f := ev_sa i1) (h := d r2 i2) (sd_is_eq hd) (sd_at_in hw) (Nat.le_of_ble_eq_true hf1) (Nat.le_of_ble_eq_true hf2) hc0 t2 t3 t4 t5 hcell2 hArr.1 hl.1 hS (sd_ad_ge hr2) (Nat.le_trans (sd_wdc hs5) (Nat.le_of_ble_eq_true c3)) c2 c1 c4 (Nat.le_of_ble_eq_true c5) (Nat.le_of_ble_eq_true c6) fun H1 locs1 e1 z1 oq hS1 => ?_
          exact hK _ _ _ _ _ _ _ _ _ _ hcs hev hl hs5 hS1 (hR.cpy hk2 ha2 z1 oq e1)
        · cases hev
      · cases hev
    · cases hev
  · -- max
    split at hev
    · rename_i y x rest
      obtain ⟨hc, hev⟩ := sd_bif hev
      simp only [Bool.and_eq_true] at hck
      obtain ⟨hd, hlen, hw, hf1, hf2⟩ := hck
      have el := Nat.eq_of_beq_eq_true hlen
      subst el
      obtain ⟨v1, rfl, hs1⟩ := hs.consI
      obtain ⟨v2, rfl, hs2⟩ := hs1.consI
      have h9 := sd_wdc hs2
      have h8 : ev_wd rest ≤ 8 := Nat.le_of_ble_eq_true hc
      have hf2 : 21 ≤ ev_lr mi := Nat.le_of_ble_eq_true hf2
      exact va_mmax hx hb (hml.trans hl.1.symm) hown (hts _ (sd_at_in hw)) (hts _ (sd_any sd_ma_ok.1)) (hts _ (sd_any sd_ma_ok.2.2.1)) (hts _ (sd_any sd_ma_ok.2.2.2.1)) (by rw [hrf]; exact Nat.le_of_ble_eq_true hf1) (by rw [hrl]; omega) (by rw [hrc]; exact hcs.1) (by rw [hrs]; exact hcs.2) (sd_is_eq hd)
        (hK _ _ _ _ _ _ _ _ _ _ hcs hev hl ⟨rfl, hs2⟩ hS hR)
    · cases hev
  · -- min
    split at hev
    · rename_i y x rest
      obtain ⟨hc, hev⟩ := sd_bif hev
      simp only [Bool.and_eq_true] at hck
      obtain ⟨hd, hlen, hw, hf1, hf2⟩ := hck
      have el := Nat.eq_of_beq_eq_true hlen
      subst el
      obtain ⟨v1, rfl, hs1⟩ := hs.consI
      obtain ⟨v2, rfl, hs2⟩ := hs1.consI
      have h9 := sd_wdc hs2
      have h8 : ev_wd rest ≤ 8 := Nat.le_of_ble_eq_true hc
      have hf2 : 21 ≤ ev_lr mi := Nat.le_of_ble_eq_true hf2
      exact va_mmin hx hb (hml.trans hl.1.symm) hown (hts _ (sd_at_in hw)) (hts _ (sd_any sd_ma_ok.2.1)) (hts _ (sd_any sd_ma_ok.2.2.1)) (hts _ (sd_any sd_ma_ok.2.2.2.2)) (by rw [hrf]; exact Nat.le_of_ble_eq_true hf1) (by rw [hrl]; omega) (by rw [hrc]; exact hcs.1) (by rw [hrs]; exact hcs.2) (sd_is_eq hd)
        (hK _ _ _ _ _ _ _ _ _ _ hcs hev hl ⟨rfl, hs2⟩ hS hR)
    · cases hev
  · -- ireturn
    split at hev
    · rename_i y
      obtain ⟨hok, hev⟩ := sd_bif hev
      simp only [Bool.and_eq_true] at hck
      cases hev
      obtain ⟨v1, rfl, hs1⟩ := hs.consI
      have := hs1.nil
      subst this
      exact sd_ret1 C0 hX (sd_is_eq hck.1) hck.2 hok rfl rfl hS hR hcs
    · cases hev
  · -- return
    split at hev
    · cases hev
      simp only [Bool.and_eq_true, decide_eq_true_eq] at hck
      have := hs.nil
      subst this
      have h243 : mi < 282 := Nat.le_of_ble_eq_true hck.2.1
      rcases hX with ⟨-, hret, hQ⟩ | ⟨q, -⟩
      · rw [hQ]
        exact W.widen hcs.1 hcs.2 (vx_ret (W.vret hx hb (hret.trans hck.2.2) (fun t ht _ => ⟨rfl, by rw [ht]; exact hR, hS.F ht⟩) hS.2.2 (sd_is_eq hck.1) (hlocks := hlk)))
      · omega
    · cases hev
  · -- areturn
    split at hev
    · rename_i r i
      obtain ⟨hok, hev⟩ := sd_bif hev
      have hr : r ≤ 100 := Nat.le_of_ble_eq_true hok
      cases hev
      simp only [Bool.and_eq_true] at hck
      obtain ⟨hd, h243, hty⟩ := hck
      obtain ⟨v1, rfl, hg, hs1⟩ := hs.consR (by omega)
      have := hs1.nil
      subst this
      have h243 : mi < 282 := Nat.le_of_ble_eq_true h243
      rcases hX with ⟨-, hret, hQ⟩ | ⟨q, -⟩
      · rw [hQ]
        obtain ⟨ty, h1, h2⟩ : ∃ ty, sd_ret mi = some ty ∧ ((∃ n, ty = .object n) ∨ ∃ t, ty = .array t) := by
          split at hty
          · rename_i n q; exact ⟨_, q, Or.inl ⟨_, rfl⟩⟩
          · rename_i n q; exact ⟨_, q, Or.inr ⟨_, rfl⟩⟩
          · cases hty
        exact W.widen hcs.1 hcs.2 (vx_ret (W.aret hx hb (hret.trans h1) h2 (Or.inr ⟨_, rfl⟩) (fun t ht _ => ⟨⟨_, rfl, sd_vr hg (sd_kr1 (by omega))⟩, by rw [ht]; exact hR, hS.F ht⟩) hS.2.2 (sd_is_eq hd) (hlocks := hlk)))
      · omega
    · cases hev
  · -- dreturn
    split at hev
    · rename_i y
      cases hev
      simp only [Bool.and_eq_true, decide_eq_true_eq] at hck
      obtain ⟨v1, rfl, hs1⟩ := hs.consD
      have := hs1.nil
      subst this
      have h243 : mi < 282 := Nat.le_of_ble_eq_true hck.2.1
      rcases hX with ⟨-, hret, hQ⟩ | ⟨q, -⟩
      · rw [hQ]
        exact W.widen hcs.1 hcs.2 (vx_ret (W.dret hx hb (hret.trans hck.2.2) (fun t ht _ => ⟨⟨_, rfl, rfl⟩, by rw [ht]; exact hR, hS.F ht⟩) hS.2.2 (sd_is_eq hck.1) (hlocks := hlk)))
      · omega
    · cases hev
  · -- a throw
    obtain ⟨n, lk, d, o⟩ := μ
    dsimp only at hev
    obtain ⟨hc, hev⟩ := sd_bif hev
    simp only [Bool.and_eq_true] at hc
    cases hev
    exact sd_throw (len := len) C0 hX hck rfl rfl (Nat.le_of_ble_eq_true hc.2.2.2) (Nat.le_of_ble_eq_true hc.1) (Nat.le_of_ble_eq_true hc.2.1) (Nat.le_trans (sd_wdc hs) (Nat.le_of_ble_eq_true hc.2.2.1)) hl.1 hS hR
  · cases hev
end SDC
/-! SOUNDNESS, 12: nothing is forgotten -/
theorem sd_swm : ∀ (tb : List Nat) (k : Nat) (y : Int32) (f : Nat → ev_T) (z : ev_T) {r : ev_O × ev_M}, ev_sw tb k y f z = some r → (∃ t, f t = some r) ∨ z = some r
  | [], _, _, _, _, _, h => Or.inr h
  | t :: ts, k, y, f, z, r, h => by
    unfold ev_sw at h
    split at h
    · exact Or.inl ⟨t, h⟩
    · exact sd_swm ts (k + 1) y f z h
theorem sd_hsm : ∀ {l : List Nat} {E : Nat} {y : Nat → ev_T} {r : ev_O × ev_M}, ev_hs l E y none = some r → ∃ hp, y hp = some r
  | [], _, _, _, h => by cases h
  | [_], _, _, _, h => by cases h
  | e :: hp :: l, E, y, r, h => by
    have h : (bif Nat.beq e E then y hp else ev_hs l E y none) = some r := h
    cases q : Nat.beq e E with
    | true => rw [q] at h; exact ⟨hp, h⟩
    | false => rw [q] at h; exact sd_hsm h
theorem sd_hxm {l : List Nat} {E : Nat} {μ : ev_M} {y : Nat → ev_T} {r : ev_O × ev_M} (h : ev_hx l E μ y = some r) : r = (.inr E, μ) ∨ ∃ hp, y hp = some r := by
  unfold ev_hx at h
  split at h
  · cases h; exact Or.inl rfl
  · exact Or.inr (sd_hsm h)
section SDM
variable {K : ev_K} {μz : ev_M} {res : ev_O}
def sd_Km (K : ev_K) (res : ev_O) (μz : ev_M) : Prop := ∀ (pc : Nat) (ls st : List ev_V) (μ : ev_M) (c s : Nat), K pc ls st μ c s = some (res, μz) → sd_le (sd_nn μ) (sd_nn μz)
theorem sd_m0 (hK : sd_Km K res μz) {h a len pc c s : Nat} {x : Int32} {ls st : List ev_V} {μ : ev_M} (hv : ev_g0 h a len x pc ls st μ c s K = some (res, μz)) : sd_le (sd_nn μ) (sd_nn μz) := by
  unfold ev_g0 at hv
  simp only [Bool.cond_eq_ite] at hv
  repeat' split at hv
  all_goals first | (have q := hK _ _ _ _ _ _ hv; exact q) | cases hv
theorem sd_m1 (hK : sd_Km K res μz) {h len pc c s : Nat} {ls st : List ev_V} {μ : ev_M} (hv : ev_g1 h len pc ls st μ c s K = some (res, μz)) : sd_le (sd_nn μ) (sd_nn μz) := by
  unfold ev_g1 at hv
  repeat' split at hv
  all_goals first | (have q := hK _ _ _ _ _ _ hv; exact q) | cases hv
theorem sd_m5 (hK : sd_Km K res μz) {h len pc c s : Nat} {ls st : List ev_V} {μ : ev_M} (hv : ev_g5 h len pc ls st μ c s K = some (res, μz)) : sd_le (sd_nn μ) (sd_nn μz) := by
  unfold ev_g5 at hv
  repeat' split at hv
  all_goals first | (have q := hK _ _ _ _ _ _ hv; exact q) | cases hv
theorem sd_m6 (hK : sd_Km K res μz) {h len pc c s : Nat} {ls st : List ev_V} {μ : ev_M} (hv : ev_g6 h len pc ls st μ c s K = some (res, μz)) : sd_le (sd_nn μ) (sd_nn μz) := by
  unfold ev_g6 at hv
  repeat' split at hv
  all_goals first | (have q := hK _ _ _ _ _ _ hv; exact q) | cases hv
theorem sd_m2 (hK : sd_Km K res μz) {h a b len pc c s : Nat} {tb : List Nat} {ls st : List ev_V} {μ : ev_M} (hv : ev_g2 h a b len tb pc ls st μ c s K = some (res, μz)) : sd_le (sd_nn μ) (sd_nn μz) := by
  unfold ev_g2 at hv
  simp only [Bool.cond_eq_ite] at hv
  repeat' split at hv
  all_goals first
    | exact hK _ _ _ _ _ _ hv
    | (rcases sd_swm _ _ _ _ _ hv with ⟨t, h2⟩ | h2 <;> exact hK _ _ _ _ _ _ h2)
    | cases hv
theorem sd_m3 (hK : sd_Km K res μz) {h a b len pc c s : Nat} {x : Int32} {ls st : List ev_V} {μ : ev_M} (hv : ev_g3 h a b len x pc ls st μ c s K = some (res, μz)) : sd_le (sd_nn μ) (sd_nn μz) := by
  obtain ⟨n, lk, d, o⟩ := μ
  unfold ev_g3 at hv
  dsimp only at hv
  simp only [Bool.cond_eq_ite] at hv
  repeat' split at hv
  all_goals first | (have q := hK _ _ _ _ _ _ hv; exact q) | cases hv
theorem sd_mmk (hK : sd_Km K res μz) {r i pc len c s c' s' m : Nat} {ls st : List ev_V} {μ : ev_M} (hv : ev_mk r i pc len c s c' s' m ls st μ K = some (res, μz)) : sd_le (sd_nn μ) (sd_nn μz) := by
  obtain ⟨n, lk, d, o⟩ := μ
  have h := hK _ _ _ _ _ _ (sd_mk_eq hv).2
  exact sd_le.tr sd_le1 h
theorem sd_mcall (hK : sd_Km K res μz) {call : ev_F → ev_M → ev_T} (hC : ∀ f μ r, call f μ = some r → sd_le (sd_nn μ) (sd_nn r.2)) {f : ev_F} {μ : ev_M} {r : ev_O × ev_M} (hcall : call f μ = some r) {k : ev_M → ev_T} {tb l : List Nat} {E : Nat}
    {y : Nat → ev_M → ev_T} (hy : ∀ hp ν, y hp ν = some (res, μz) → sd_le (sd_nn ν) (sd_nn μz)) (h : (bif Nat.beq (tb.getD 2 9) 0 && Nat.beq (tb.getD 3 9) 0 then ev_hx l E r.2 (fun hp => y hp r.2) else none) = some (res, μz)) : sd_le (sd_nn μ) (sd_nn μz) := by
  have h1 := hC _ _ _ hcall
  obtain ⟨-, h⟩ := sd_bif h
  rcases sd_hxm h with e | ⟨hp, e⟩
  · cases e; exact h1
  · exact sd_le.tr h1 (hy _ _ e)
theorem sd_m4 (hK : sd_Km K res μz) {call : ev_F → ev_M → ev_T} (hC : ∀ f μ r, call f μ = some r → sd_le (sd_nn μ) (sd_nn r.2)) {m h a b len pc c s : Nat} {tb : List Nat} {ls st : List ev_V} {μ : ev_M} (hv : ev_g4 call m h a b len tb pc ls st μ c s K = some (res, μz)) : sd_le (sd_nn μ) (sd_nn μz) := by
  have callX : ∀ {f : ev_F} {r : ev_O × ev_M} {E c' s' : Nat}, call f μ = some r → (bif Nat.beq (tb.getD 2 9) 0 && Nat.beq (tb.getD 3 9) 0 then ev_hx (tb.drop 4) E r.2 (fun hp => K hp ls [ev_R 106 0] r.2 c' s') else none) = some (res, μz) → sd_le (sd_nn μ) (sd_nn μz) := fun {f r E c' s'} h1 h2 =>
    sd_mcall (k := fun _ => none) hK hC h1 (y := fun hp ν => K hp ls [ev_R 106 0] ν c' s') (fun hp ν q => hK _ _ _ _ _ _ q) h2
  unfold ev_g4 at hv
  split at hv
  · split at hv
    · exact sd_mmk hK hv
    · cases hv
  · split at hv
    · split at hv
      · exact sd_mmk hK (sd_bif hv).2
      · cases hv
    · cases hv
  · split at hv
    · split at hv
      · exact sd_mmk hK (sd_bif hv).2
      · cases hv
    · cases hv
  · split at hv
    · exact hK _ _ _ _ _ _ (sd_bif hv).2
    · cases hv
  · obtain ⟨hr, hv⟩ := sd_cl_eq hv
    cases hcall : call (a, 0, (st.take b).reverse, [], 0, 0) μ with
    | none => rw [hcall] at hv; cases hv
    | some t =>
      rw [hcall] at hv
      unfold ev_bi at hv
      split at hv
      · rename_i x μ1 e; cases e; exact sd_le.tr (hC _ _ _ hcall) (hK _ _ _ _ _ _ hv)
      · rename_i E μ1 e; cases e; exact callX hcall hv
      · cases hv
  · obtain ⟨hr, hv⟩ := sd_cl_eq hv
    cases hcall : call (a, 0, (st.take b).reverse, [], 0, 0) μ with
    | none => rw [hcall] at hv; cases hv
    | some t =>
      rw [hcall] at hv
      unfold ev_bv at hv
      split at hv
      · rename_i μ1 e; cases e; exact sd_le.tr (hC _ _ _ hcall) (hK _ _ _ _ _ _ hv)
      · rename_i E μ1 e; cases e; exact callX hcall hv
      · cases hv
  · obtain ⟨hr, hv⟩ := sd_cl_eq hv
    cases hcall : call (a, 0, (st.take b).reverse, [], 0, 0) μ with
    | none => rw [hcall] at hv; cases hv
    | some t =>
      rw [hcall] at hv
      unfold ev_br at hv
      split at hv
      · rename_i x y μ1 e; cases e; exact sd_le.tr (hC _ _ _ hcall) (hK _ _ _ _ _ _ hv)
      · rename_i E μ1 e; cases e; exact callX hcall hv
      · cases hv
  · obtain ⟨hr, hv⟩ := sd_cl_eq hv
    cases hcall : call (a, 0, (st.take b).reverse, [], 0, 0) μ with
    | none => rw [hcall] at hv; cases hv
    | some t =>
      rw [hcall] at hv
      unfold ev_bd at hv
      split at hv
      · rename_i x μ1 e; cases e; exact sd_le.tr (hC _ _ _ hcall) (hK _ _ _ _ _ _ hv)
      · rename_i E μ1 e; cases e; exact callX hcall hv
      · cases hv
  all_goals
    obtain ⟨n, lk, d, o⟩ := μ
    try dsimp only at hv
    try simp only [Bool.cond_eq_ite] at hv
    repeat' split at hv
    all_goals first | (have q := hK _ _ _ _ _ _ hv; exact q) | (cases hv; exact sd_le.rf _) | (cases hv; exact ⟨by show n ≤ n + 1000; omega, Nat.le_refl _, fun _ _ => rfl⟩) | cases hv
theorem sd_lqe {x : Nat} {k : Nat → ev_T} {r : ev_O × ev_M} (h : ev_lq x k = some r) : ∃ j, x = j + 1 ∧ k j = some r := by
  unfold ev_lq at h
  split at h
  · cases h
  · exact ⟨_, rfl, h⟩
theorem sd_ghe {t : ev_T} {μ : ev_M} {k : ev_M → ev_T} {r : ev_O × ev_M} (h : ev_gh t μ k = some r) : ∃ z ν, t = some (z, ν) ∧ k (ev_mg μ ν) = some r := by
  unfold ev_gh at h
  split at h
  · exact ⟨_, _, rfl, h⟩
  · cases h
theorem sd_mmw (hK : sd_Km K res μz) {r pc len c s c' s' m : Nat} {e' : Nat → Nat → Nat → Int32} {ls st : List ev_V} {n w : Nat} {lk : Nat → Nat → Nat → Bool} {d e : Nat → Nat → Nat → Int32} {t : Nat → Nat} {q : Nat → Nat → Nat → Nat} (hv : ev_mw r e' pc len c s c' s' m ls st (n, lk, d, w, t, e, q) K = some (res, μz)) : sd_le (n, w, t) (sd_nn μz) :=
  sd_le.tr sd_le2 (hK _ _ _ _ _ _ (sd_mw_eq hv).2)
theorem sd_m7 (hK : sd_Km K res μz) {call : ev_F → ev_M → ev_T} (hC : ∀ f μ r, call f μ = some r → sd_le (sd_nn μ) (sd_nn r.2)) {m h a b len pc c s : Nat} {x : Int32} {tb : List Nat} {ls st : List ev_V} {μ : ev_M} (hv : ev_g7 call m h a b len x tb pc ls st μ c s K = some (res, μz)) : sd_le (sd_nn μ) (sd_nn μz) := by
  have hgh : ∀ {t : ev_T} {ν : ev_M} {k : ev_M → ev_T}, ev_gh t ν k = some (res, μz) → (∀ ν', k ν' = some (res, μz) → sd_le (sd_nn ν') (sd_nn μz)) → sd_le (sd_nn ν) (sd_nn μz) := fun {t ν k} h h2 => by
    obtain ⟨z, ν2, -, e⟩ := sd_ghe h
    have z := h2 _ e
    exact z
  have hcl : ∀ {kd : Nat} {k : ev_F → List ev_V → Nat → Nat → ev_T}, ev_cl m a b kd st c s k = some (res, μz) → (∀ f r c' s', k f r c' s' = some (res, μz) → sd_le (sd_nn μ) (sd_nn μz)) → sd_le (sd_nn μ) (sd_nn μz) := fun {kd k} h h2 => h2 _ _ _ _ (sd_cl_eq h).2
  obtain ⟨n, lk, d, w, t, e, q⟩ := μ
  unfold ev_g7 at hv
  dsimp only at hv
  simp only [Bool.cond_eq_ite] at hv
  split at hv
  all_goals first
    | cases hv
    | (refine hcl hv fun f r c' s' h1 => ?_
       cases hcall : call f (n, lk, d, w, t, e, q) with
       | none => rw [hcall] at h1; cases h1
       | some z =>
         rw [hcall] at h1
         have h3 := hC _ _ _ hcall
         first
         | (unfold ev_bi at h1
            split at h1
            · rename_i y μ1 e1; cases e1; exact sd_le.tr h3 (hgh h1 (fun _ h4 => hK _ _ _ _ _ _ h4))
            · cases h1
            · cases h1)
         | (unfold ev_bv at h1
            split at h1
            · rename_i μ1 e1; cases e1; exact sd_le.tr h3 (hgh h1 (fun _ h4 => hK _ _ _ _ _ _ h4))
            · cases h1
            · cases h1)
         | (unfold ev_bd at h1
            split at h1
            · rename_i y μ1 e1; cases e1; exact sd_le.tr h3 (hgh h1 (fun _ h4 => hK _ _ _ _ _ _ h4))
            · cases h1
            · cases h1)
         | (unfold ev_br at h1
            split at h1
            · rename_i r1 i1 μ1 e1; cases e1; dsimp only at h1; split at h1 <;> first | exact sd_le.tr h3 (hK _ _ _ _ _ _ h1) | cases h1
            · cases h1
            · cases h1))
    | (repeat' split at hv
       all_goals first
         | (have z := hK _ _ _ _ _ _ hv; exact z)
         | exact sd_mmw hK hv
         | (obtain ⟨j, -, z⟩ := sd_lqe hv; have z := hK _ _ _ _ _ _ z; exact z)
         | (cases hv; exact sd_le.rf _)
         | cases hv)
theorem sd_mex (hK : sd_Km K res μz) {call : ev_F → ev_M → ev_T} (hC : ∀ f μ r, call f μ = some r → sd_le (sd_nn μ) (sd_nn r.2)) {m pc c s : Nat} {ins : ev_C} {ls st : List ev_V} {μ : ev_M} (hv : ev_ex call m K ins pc ls st μ c s = some (res, μz)) : sd_le (sd_nn μ) (sd_nn μz) := by
  obtain ⟨q, gp, h, a, b, len, x, tb⟩ := ins
  unfold ev_ex at hv
  dsimp only at hv
  split at hv
  · exact sd_m0 hK hv
  · exact sd_m1 hK hv
  · exact sd_m2 hK hv
  · exact sd_m3 hK hv
  · exact sd_m4 hK hC hv
  · exact sd_m5 hK hv
  · exact sd_m6 hK hv
  · exact sd_m7 hK hC hv
  · cases hv
end SDM
theorem sd_mono : ∀ (n : Nat) (f : ev_F) (μ : ev_M) (r : ev_O × ev_M), ev_ev n f μ = some r → sd_le (sd_nn μ) (sd_nn r.2)
  | 0, _, _, _, h => by cases h
  | n + 1, (m, pc, ls, st, c, s), μ, (res, μz), h => by
    have h : (match ev_code m pc with
      | none => none
      | some ins => ev_ex (ev_ev n) m (fun pc' ls' st' μ' c' s' => ev_ev n (m, pc', ls', st', c', s') μ') ins pc (ev_ct ins.1 ls) st μ c s) = some (res, μz) := h
    split at h
    · cases h
    · exact sd_mex (fun pc ls st μ c s h => sd_mono n _ _ _ h) (sd_mono n) h
