/-! SOUNDNESS, 6: cells, all instructions -/
section SD7
variable {p : Program} {l : Launch} {e : Env} {R : Room} {s : State} {m : MethodId} {args : Array Value} {below : List Frame} {meth : Method} {c : Code} {Q : State → Prop} {g : sd_G} {mi : Nat} {res : ev_O} {μz : ev_M} {K : ev_K}
theorem sd_clL (L : Nat) : (Int32.ofNat L).toNatClampNeg ≤ L := by
  show (Int32.ofNat L).toInt.toNat ≤ L
  have h : (Int32.ofNat L).toInt ≤ (L : Int) := by
    rw [Int32.toInt_ofNat']
    unfold Int.bmod
    have e : ((2 ^ 32 : Nat) : Int) = 4294967296 := by decide
    simp only [Int32.size] at *
    split <;> omega
  omega
theorem sd_g3 (C : sd_cx p l R s m args meth c g mi) (hK : sd_K p l e R s m args below meth c Q g mi res μz K) {pc h a b len : Nat} {x : Int32} {tb : List Nat} (hck : sd_k3 mi pc h a b len x tb = true) {ls st : List ev_V} {μ : ev_M} {cl sl : Nat} {H : Heap} {locs : List Loc} {vl : Array Slot} {vs : List Value} (hev : ev_g3 h a b len x pc ls st μ cl sl K = some (res, μz)) (hl : sd_l g (sd_nn μ) (ev_ml mi) ls vl) (hs : sd_s g (sd_nn μ) st vs) (hS : va_S (sd_A g) s.heap H locs) (hR : sd_R g μ H) (hcs : cl ≤ ev_mc mi ∧ sl ≤ ev_ms mi) : W p l e R s m args below meth c H locs cl sl Q (F0 m pc vl vs) := by
  have C0 := C
  obtain ⟨hx, hb, hml, hown, hts, hX, -⟩ := C
  obtain ⟨n, lk, d, o⟩ := μ
  have hArr := sd_arr hX.1
  have kk : ∀ {pc : Nat} {ls st : List ev_V} {μ : ev_M} {H : Heap} {locs : List Loc} {vs : List Value}, K pc ls st μ cl sl = some (res, μz) → sd_l g (sd_nn μ) (ev_ml mi) ls vl → sd_s g (sd_nn μ) st vs → va_S (sd_A g) s.heap H locs → sd_R g μ H → W p l e R s m args below meth c H locs cl sl Q (F0 m pc vl vs) := fun a b c d e => hK _ _ _ _ _ _ _ _ _ _ hcs a b c d e
  unfold ev_g3 at hev
  dsimp only at hev
  split at hev
  · -- getfield
    split at hev
    · rename_i r i rest
      cases hc : Nat.beq (ev_kn r).1 0 && Nat.beq (ev_kn r).2 a with
      | false => rw [hc] at hev; cases hev
      | true =>
        rw [hc] at hev
        simp only [Bool.and_eq_true] at hc
        have hkn : ev_kn r = (0, a) := Prod.ext (Nat.eq_of_beq_eq_true hc.1) (Nat.eq_of_beq_eq_true hc.2)
        have hr : r < 62 := sd_kn62 (by rw [hkn]; show 0 < 6; decide)
        obtain ⟨vs', rfl, hg, hs'⟩ := hs.consR (by omega)
        have ha := sd_al62 hg hr
        obtain ⟨q, hq, hO⟩ := sd_c0 (hR.1 r i hr ha) hkn
        have hb2 : b < sd_n r := by
          simp only [sd_k3, Bool.and_eq_true] at hck
          have := Nat.le_of_ble_eq_true hck.2.2.1
          unfold sd_n
          rw [hkn]
          exact this
        cases hrf : ev_rf a b with
        | true =>
          rw [hrf] at hev
          cases hlk : lk r i b with
          | false => simp [hlk] at hev
          | true =>
            have hev : K (pc + len) ls (ev_R (ev_tg r b i).1 (ev_tg r b i).2 :: rest) (n, lk, d, o) cl sl = some (res, μz) := by simpa [hlk] using hev
            have hir : ev_ir r b = true := by unfold ev_ir; rw [hkn]; exact hrf
            have ht := hR.lks hr ha b hir hb2 hlk
            refine sd_get C0 (sd_al11 ha hkn) hck hq hO (kk hev hl ⟨?_, hs'⟩ hS hR)
            have e9 : (if ev_rf a b = true then sd_lv g (n, lk, d, o) r i b else .int (d r i b)) = .ref (sd_ad g (ev_tg r b i).1 (ev_tg r b i).2) := by
              rw [hrf, if_pos rfl]
              unfold sd_lv
              rw [if_pos hlk]
            show sd_v g (n, o.1, o.2.1) _ (if ev_rf a b = true then sd_lv g (n, lk, d, o) r i b else .int (d r i b))
            rw [e9]
            exact sd_vr (sd_gd1 ht.1 ht.2) (sd_kr1 (by omega))
        | false =>
          rw [hrf] at hev
          have hev : K (pc + len) ls (ev_I (d r i b) :: rest) (n, lk, d, o) cl sl = some (res, μz) := hev
          refine sd_get C0 (sd_al11 ha hkn) hck hq hO (kk hev hl ⟨?_, hs'⟩ hS hR)
          show (if ev_rf a b = true then sd_lv g (n, lk, d, o) r i b else .int (d r i b)) = .int (d r i b)
          rw [hrf]
          rfl
    · cases hev
  · -- putfield
    split at hev
    · rename_i v r i rest
      cases hc : Nat.beq (ev_kn r).1 0 && (Nat.beq (ev_kn r).2 a && (!(ev_rf a b) && ev_ok (ev_ft a b) v)) with
      | false => rw [hc] at hev; cases hev
      | true =>
        rw [hc] at hev
        simp only [Bool.and_eq_true, Bool.not_eq_true'] at hc
        have hkn : ev_kn r = (0, a) := Prod.ext (Nat.eq_of_beq_eq_true hc.1) (Nat.eq_of_beq_eq_true hc.2.1)
        have hr : r < 62 := sd_kn62 (by rw [hkn]; show 0 < 6; decide)
        obtain ⟨vs1, rfl, hs1⟩ := hs.consI
        obtain ⟨vs', rfl, hg, hs'⟩ := hs1.consR (by omega)
        exact sd_putI C0 hck hkn hc.2.2.1 hc.2.2.2 hg hS hR (fun H1 locs1 hS1 hR1 => kk hev hl hs' hS1 hR1)
    · rename_i r' i' r i rest
      cases hc : Nat.beq (ev_kn r).1 0 && (Nat.beq (ev_kn r).2 a && (ev_rf a b && (Nat.blt r' 62 && (Nat.beq r' (ev_tg r b i).1 && Nat.beq i' (ev_tg r b i).2)))) with
      | false => rw [hc] at hev; cases hev
      | true =>
        rw [hc] at hev
        simp only [Bool.and_eq_true] at hc
        have hkn : ev_kn r = (0, a) := Prod.ext (Nat.eq_of_beq_eq_true hc.1) (Nat.eq_of_beq_eq_true hc.2.1)
        have hr : r < 62 := sd_kn62 (by rw [hkn]; show 0 < 6; decide)
        have er' := Nat.eq_of_beq_eq_true hc.2.2.2.2.1
        have ei' := Nat.eq_of_beq_eq_true hc.2.2.2.2.2
        have hb2 : b < ev_nf a := by
          simp only [sd_k3, Bool.and_eq_true] at hck
          exact Nat.le_of_ble_eq_true hck.2.2.1
        have hr' : r' < 62 := Nat.le_of_ble_eq_true hc.2.2.2.1
        obtain ⟨vs1, rfl, hg', hs1⟩ := hs.consR (by omega)
        obtain ⟨vs', rfl, hg, hs'⟩ := hs1.consR (by omega)
        have hal := sd_al62 hg' hr'
        subst er'
        subst ei'
        exact sd_putR C0 hck hkn hc.2.2.1 hg ⟨hr', hal⟩ hS hR (fun H1 locs1 hS1 hR1 => kk hev hl hs' hS1 hR1)
    · cases hev
  · -- loads
    simp only [sd_k3, Bool.and_eq_true] at hck
    have el := Nat.eq_of_beq_eq_true hck.2
    subst el
    have hck := hck.1
    split at hev
    · rename_i x r i rest
      obtain ⟨vs1, rfl, hs1⟩ := hs.consI
      split at hev
      · rename_i k hkn
        cases hc : Nat.beq a 0 && ev_in x k with
        | false => rw [hc] at hev; cases hev
        | true =>
          rw [hc] at hev
          simp only [Bool.and_eq_true] at hc
          have ea := Nat.eq_of_beq_eq_true hc.1
          subst ea
          have hr : r < 62 := sd_kn62 (by rw [hkn]; show 1 < 6; decide)
          obtain ⟨vs', rfl, hg, hs'⟩ := hs1.consR (by omega)
          have hcell := sd_cell (hR.1 r i hr (sd_al62 hg hr)) hkn (by decide) (by decide)
          exact W.iald (v := .int (d r i x.toNatClampNeg)) hx hb hcell (hArr.1 _ _) (fun q => by cases q) (sd_arrin hc.2) (by rw [arrV_read _ _ (sd_in_lt hc.2)]) rfl rfl (sd_is_eq hck) (kk hev hl ⟨rfl, hs'⟩ hS hR)
      · rename_i k hkn
        cases hc : Nat.beq a 1 && ev_in x k with
        | false => rw [hc] at hev; cases hev
        | true =>
          rw [hc] at hev
          simp only [Bool.and_eq_true] at hc
          have ea := Nat.eq_of_beq_eq_true hc.1
          subst ea
          have hr : r < 62 := sd_kn62 (by rw [hkn]; show 2 < 6; decide)
          obtain ⟨vs', rfl, hg, hs'⟩ := hs1.consR (by omega)
          have hcell := sd_cell (hR.1 r i hr (sd_al62 hg hr)) hkn (by decide) (by decide)
          exact W.bald (v := .int (d r i x.toNatClampNeg)) hx hb hcell (hArr.2.1 _ _) (fun q => by cases q) (sd_arrin hc.2) (by rw [arrV_read _ _ (sd_in_lt hc.2)]) rfl rfl (sd_is_eq hck) (kk hev hl ⟨rfl, hs'⟩ hS hR)
      · rename_i k hkn
        cases hc : Nat.beq a 1 && ev_in x k with
        | false => rw [hc] at hev; cases hev
        | true =>
          rw [hc] at hev
          simp only [Bool.and_eq_true] at hc
          have ea := Nat.eq_of_beq_eq_true hc.1
          subst ea
          have hr : r < 62 := sd_kn62 (by rw [hkn]; show 3 < 6; decide)
          obtain ⟨vs', rfl, hg, hs'⟩ := hs1.consR (by omega)
          have hcell := sd_cell (hR.1 r i hr (sd_al62 hg hr)) hkn (by decide) (by decide)
          exact W.zald (v := .int (d r i x.toNatClampNeg)) hx hb hcell (hArr.2.2.1 _ _) (fun q => by cases q) (sd_arrin hc.2) (by rw [arrV_read _ _ (sd_in_lt hc.2)]) rfl rfl (sd_is_eq hck) (kk hev hl ⟨rfl, hs'⟩ hS hR)
      · rename_i k hkn
        cases hc : Nat.beq a 1 && ev_in x (ev_sl i) with
        | false => rw [hc] at hev; cases hev
        | true =>
          rw [hc] at hev
          simp only [Bool.and_eq_true] at hc
          have ea := Nat.eq_of_beq_eq_true hc.1
          subst ea
          have hr := (sd_kn789 (k := k)).1 hkn
          subst hr
          obtain ⟨vs', rfl, hg, hs'⟩ := hs1.consR (by decide)
          have hT := (hX.2.2.2.1 i (hg.2.1 (Or.inr rfl))).2.2.2
          exact va_tb hx hb hT hS (sd_in_vp hc.2) rfl (sd_is_eq hck) (kk hev hl ⟨rfl, hs'⟩ hS hR)
      · rename_i k hkn
        cases hc : Nat.beq a 0 && ev_in x 7 with
        | false => rw [hc] at hev; cases hev
        | true =>
          rw [hc] at hev
          simp only [Bool.and_eq_true] at hc
          have ea := Nat.eq_of_beq_eq_true hc.1
          subst ea
          have hr := (sd_kn789 (k := k)).2.1 hkn
          subst hr
          obtain ⟨vs', rfl, hg, hs'⟩ := hs1.consR (by decide)
          have hT := ((hX.2.2.2.2.1 i (by have := hg.2.2.1 rfl; omega)).1 (hg.2.2.1 rfl)).2
          exact va_ti hx hb hT hS (sd_in_vp hc.2) rfl (sd_is_eq hck) (kk hev hl ⟨rfl, hs'⟩ hS hR)
      · rename_i k hkn
        cases hc : Nat.beq a 0 && ev_in x (d 104 0 0).toNatClampNeg with
        | false => rw [hc] at hev; cases hev
        | true =>
          rw [hc] at hev
          simp only [Bool.and_eq_true] at hc
          have ea := Nat.eq_of_beq_eq_true hc.1
          subst ea
          have hr := (sd_kn789 (k := k)).2.2 hkn
          subst hr
          obtain ⟨vs', rfl, hg, hs'⟩ := hs1.consR (by decide)
          obtain ⟨-, -, -, hxs, hL, -⟩ := id hR
          obtain ⟨hxx, hlt⟩ := hX.2.2.2.2.2.2.2.2.2.2
          have hxs : d 103 0 = g.2.2.2.2.2.2.2.2 := hxs
          have hL : d 104 0 0 = Int32.ofNat g.2.2.2.2.2.2.2.1 := hL
          have hin : ev_in x g.2.2.2.2.2.2.2.1 = true := by
            have h2 := hc.2
            rw [hL] at h2
            simp only [ev_in, Bool.and_eq_true] at h2 ⊢
            refine ⟨h2.1, Nat.ble_eq.mpr ?_⟩
            have h3 := Nat.le_of_ble_eq_true h2.2
            have h4 := sd_clL g.2.2.2.2.2.2.2.1
            omega
          have key := va_sld (Q := Q) (below := below) (e := e) (args := args) (m := m) (ls := vl) (rest := vs') (cells := cl) (slots := sl) (l := l) (R := R) (meth := meth) hx hb hxx (Nat.lt_of_lt_of_le hlt C0.2.2.2.2.2.2.2.2.1) (show ¬ sd_A g g.2.2.2.2.2.2.1 from Nat.not_le.mpr hlt) hS (sd_in_vp hin) (sd_is_eq hck)
          have ead : sd_ad g 103 i = g.2.2.2.2.2.2.1 := rfl
          rw [ead]
          refine key ?_
          rw [← hxs]
          exact kk hev hl ⟨rfl, hs'⟩ hS hR
      · cases hev
    · cases hev
  · -- aaload
    simp only [sd_k3, Bool.and_eq_true] at hck
    have el := Nat.eq_of_beq_eq_true hck.2
    subst el
    split at hev
    · rename_i x r i rest
      obtain ⟨vs1, rfl, hs1⟩ := hs.consI
      split at hev
      · rename_i k hkn
        cases hc : ev_in x k with
        | false => rw [hc] at hev; cases hev
        | true =>
          rw [hc] at hev
          have hr : r < 62 := sd_kn62 (by rw [hkn]; show 5 < 6; decide)
          obtain ⟨vs', rfl, hg, hs'⟩ := hs1.consR (by omega)
          have ha := sd_al62 hg hr
          have hcell := hR.1 r i hr ha
          unfold sd_c at hcell
          rw [hkn] at hcell
          have hcell : H[sd_ad g r i]? = some (arrV (g.2.2.1 5) k (fun k => sd_lv g (n, lk, d, o) r i k)) := hcell
          cases hlk : lk r i x.toNatClampNeg with
          | false => simp [hlk] at hev
          | true =>
            have hev : K (pc + 1) ls (ev_R (ev_tg r x.toNatClampNeg i).1 (ev_tg r x.toNatClampNeg i).2 :: rest) (n, lk, d, o) cl sl = some (res, μz) := by simpa [hlk] using hev
            have hir : ev_ir r x.toNatClampNeg = true := by unfold ev_ir; rw [hkn]; rfl
            have ht := hR.lks hr ha x.toNatClampNeg hir (by unfold sd_n; rw [hkn]; exact sd_in_lt hc) hlk
            have hlv : sd_lv g (n, lk, d, o) r i x.toNatClampNeg = .ref (sd_ad g (ev_tg r x.toNatClampNeg i).1 (ev_tg r x.toNatClampNeg i).2) := by
              unfold sd_lv
              rw [if_pos hlk]
            refine W.aald (v := .ref (sd_ad g (ev_tg r x.toNatClampNeg i).1 (ev_tg r x.toNatClampNeg i).2)) (ty := .object RX8) hx hb hcell (hArr.2.2.2.2.1 _ _) rfl (fun q => by cases q) (sd_arrin hc) (by rw [arrV_read _ _ (sd_in_lt hc), hlv]) rfl rfl (sd_is_eq hck.1) (kk hev hl ⟨?_, hs'⟩ hS hR)
            exact sd_vr (sd_gd1 ht.1 ht.2) (sd_kr1 (by omega))
      · cases hev
    · cases hev
  · -- stores
    simp only [sd_k3, Bool.and_eq_true] at hck
    have el := Nat.eq_of_beq_eq_true hck.2
    subst el
    have hck := hck.1
    split at hev
    · rename_i v x r i rest
      obtain ⟨vs0, rfl, hs0⟩ := hs.consI
      obtain ⟨vs1, rfl, hs1⟩ := hs0.consI
      split at hev
      · rename_i k hkn
        cases hc : Nat.beq a 0 && ev_in x k with
        | false => rw [hc] at hev; cases hev
        | true =>
          rw [hc] at hev
          simp only [Bool.and_eq_true] at hc
          have ea := Nat.eq_of_beq_eq_true hc.1
          subst ea
          have hr : r < 62 := sd_kn62 (by rw [hkn]; show 1 < 6; decide)
          obtain ⟨vs', rfl, hg, hs'⟩ := hs1.consR (by omega)
          have ha := sd_al62 hg hr
          have hcell := sd_cell (hR.1 r i hr ha) hkn (by decide) (by decide)
          exact W.iast hx hb hcell (hArr.1 _ _) (fun q => by cases q) (sd_arrin hc.2) rfl rfl (sd_is_eq hck) (fun H1 e1 z oq => kk hev hl hs' (hS.put z oq (sd_ad_ge hr)) (hR.puti hr ha z oq (sd_rowp hkn (by decide) (by decide) e1)))
      · rename_i k hkn
        cases hc : Nat.beq a 1 && ev_in x k with
        | false => rw [hc] at hev; cases hev
        | true =>
          rw [hc] at hev
          simp only [Bool.and_eq_true] at hc
          have ea := Nat.eq_of_beq_eq_true hc.1
          subst ea
          have hr : r < 62 := sd_kn62 (by rw [hkn]; show 2 < 6; decide)
          obtain ⟨vs', rfl, hg, hs'⟩ := hs1.consR (by omega)
          have ha := sd_al62 hg hr
          have hcell := sd_cell (hR.1 r i hr ha) hkn (by decide) (by decide)
          exact W.bast hx hb hcell (hArr.2.1 _ _) (fun q => by cases q) (sd_arrin hc.2) rfl rfl (sd_is_eq hck) (fun H1 e1 z oq => kk hev hl hs' (hS.put z oq (sd_ad_ge hr)) (hR.puti hr ha z oq (sd_rowp hkn (by decide) (by decide) e1)))
      · rename_i k hkn
        cases hc : Nat.beq a 1 && ev_in x k with
        | false => rw [hc] at hev; cases hev
        | true =>
          rw [hc] at hev
          simp only [Bool.and_eq_true] at hc
          have ea := Nat.eq_of_beq_eq_true hc.1
          subst ea
          have hr : r < 62 := sd_kn62 (by rw [hkn]; show 3 < 6; decide)
          obtain ⟨vs', rfl, hg, hs'⟩ := hs1.consR (by omega)
          have ha := sd_al62 hg hr
          have hcell := sd_cell (hR.1 r i hr ha) hkn (by decide) (by decide)
          exact W.zast hx hb hcell (hArr.2.2.1 _ _) (fun q => by cases q) (sd_arrin hc.2) rfl rfl (sd_is_eq hck) (fun H1 e1 z oq => kk hev hl hs' (hS.put z oq (sd_ad_ge hr)) (hR.puti hr ha z oq (sd_rowp hkn (by decide) (by decide) e1)))
      · cases hev
    · cases hev
  · -- aastore
    simp only [sd_k3, Bool.and_eq_true] at hck
    have el := Nat.eq_of_beq_eq_true hck.2
    subst el
    split at hev
    · rename_i r' i' x r i rest
      split at hev
      · rename_i k hkn
        cases hc : ev_in x k && (Nat.blt r' 62 && (Nat.beq r' (ev_tg r x.toNatClampNeg i).1 && Nat.beq i' (ev_tg r x.toNatClampNeg i).2)) with
        | false => rw [hc] at hev; cases hev
        | true =>
          rw [hc] at hev
          simp only [Bool.and_eq_true] at hc
          have hr' : r' < 62 := Nat.le_of_ble_eq_true hc.2.1
          have er' := Nat.eq_of_beq_eq_true hc.2.2.1
          have ei' := Nat.eq_of_beq_eq_true hc.2.2.2
          have hr : r < 62 := sd_kn62 (by rw [hkn]; show 5 < 6; decide)
          obtain ⟨vs0, rfl, hg', hs0⟩ := hs.consR (by omega)
          obtain ⟨vs1, rfl, hs1⟩ := hs0.consI
          obtain ⟨vs', rfl, hg, hs'⟩ := hs1.consR (by omega)
          have ha := sd_al62 hg hr
          have ha' := sd_al62 hg' hr'
          have hcell := hR.1 r i hr ha
          unfold sd_c at hcell
          rw [hkn] at hcell
          have hcell : H[sd_ad g r i]? = some (arrV (g.2.2.1 5) k (fun k => sd_lv g (n, lk, d, o) r i k)) := hcell
          have hk0 : ∀ r, r < 62 → ∀ k, (ev_kn r).1 = 5 → (ev_tg r k 0).1 = 0 := by
            intro r hr k h5
            have h40 : ∀ r, r < 62 → (ev_kn r).1 = 5 → r = 40 ∨ r = 42 := by decide +kernel
            rcases h40 r hr h5 with rfl | rfl <;> rfl
          have hr0 : r' = 0 := by
            have h40 : ∀ r, r < 62 → (ev_kn r).1 = 5 → r = 40 ∨ r = 42 := by decide +kernel
            rcases h40 r hr (by rw [hkn]) with q | q
            · rw [er', q]; rfl
            · rw [er', q]; rfl
          have hkn0 : ev_kn r' = (0, 8) := by rw [hr0]; rfl
          obtain ⟨q, hq, cellV, g1, g2, g3, -⟩ := sd_c0 (hR.1 r' i' hr' ha') hkn0
          have hq8 : q = (RX8, TX8, 9) := by cases hq; rfl
          subst hq8
          have hcls := (hX.1.1 8 _ hq).2
          obtain ⟨kA, comp, k1, k2, k3, -⟩ := (hX.1.2 4 _ rfl).2
          have hcomp : comp = g.2.1.1 8 := Option.some.inj (k3.symm.trans hcls.1)
          subst hcomp
          obtain ⟨kC, hkC, -⟩ := hcls.2
          have hlt := sd_in_lt hc.1
          have h0 : ¬ x < 0 := fun q => sd_in_vp hc.1 (Or.inl q)
          refine W.aast hx hb hcell (fun q h => by cases h) (fun h => by cases h) k1 k2 rfl hkC ⟨h0, by show _ < (arrV _ _ _).slots.size; rw [arrV_size]; exact hlt⟩ g1 (fun q h => by rw [g3] at h; cases h) (by rw [g2]; exact hkC) (by rw [g2]; exact va_assign hcls) rfl rfl (sd_is_eq hck.1) fun H1 e1 z oq => ?_
          refine kk hev hl hs' (hS.put z oq (sd_ad_ge hr)) (hR.putr hr ha ⟨er' ▸ hr', er' ▸ ei' ▸ ha'⟩ z oq ?_)
          unfold sd_c
          rw [hkn]
          show H1[sd_ad g r i]? = some (arrV (g.2.2.1 5) k (fun k => sd_lv g (n, ev_lk lk r i x.toNatClampNeg true, d, o) r i k))
          rw [e1, arrV_store]
          congr 2
          funext j
          show (if j = x.toNatClampNeg then Value.ref (sd_ad g r' i') else sd_lv g (n, lk, d, o) r i j) = _
          unfold sd_lv
          show _ = (if ev_lk lk r i x.toNatClampNeg true r i j = true then _ else _)
          rw [sd_lk_on]
          by_cases e : j = x.toNatClampNeg
          · rw [if_pos e, if_pos e, if_pos rfl, er', ei', e]
          · rw [if_neg e, if_neg e]
      · cases hev
    · cases hev
  · -- arraylength
    simp only [sd_k3, Bool.and_eq_true] at hck
    have el := Nat.eq_of_beq_eq_true hck.2
    subst el
    have hck := hck.1
    split at hev
    · rename_i r i rest
      split at hev
      · cases hev
      · cases hev
      · rename_i k hkn
        have hr := (sd_kn789 (k := k)).1 hkn
        subst hr
        obtain ⟨vs', rfl, hg, hs'⟩ := hs.consR (by decide)
        have hT := (hX.2.2.2.1 i (hg.2.1 (Or.inr rfl))).2.2.2
        exact va_tlen hx hb hT hS rfl (sd_is_eq hck) (kk hev hl ⟨rfl, hs'⟩ hS hR)
      · rename_i k hkn
        have hr := (sd_kn789 (k := k)).2.1 hkn
        subst hr
        obtain ⟨vs', rfl, hg, hs'⟩ := hs.consR (by decide)
        have hT := ((hX.2.2.2.2.1 i (by have := hg.2.2.1 rfl; omega)).1 (hg.2.2.1 rfl)).2
        exact va_tlen (v := 7) hx hb hT hS rfl (sd_is_eq hck) (kk hev hl ⟨rfl, hs'⟩ hS hR)
      · rename_i k hkn
        have hr := (sd_kn789 (k := k)).2.2 hkn
        subst hr
        obtain ⟨vs', rfl, hg, hs'⟩ := hs.consR (by decide)
        obtain ⟨hxx, hlt⟩ := hX.2.2.2.2.2.2.2.2.2.2
        have hL : d 104 0 0 = Int32.ofNat g.2.2.2.2.2.2.2.1 := hR.2.2.2.2.1
        rw [hL] at hev
        exact va_slen hx hb hxx (Nat.lt_of_lt_of_le hlt C0.2.2.2.2.2.2.2.2.1) (show ¬ sd_A g g.2.2.2.2.2.2.1 from Nat.not_le.mpr hlt) hS (sd_is_eq hck) (kk hev hl ⟨rfl, hs'⟩ hS hR)
      · rename_i t k h0 h6 h7 h8 h9 hkn
        have ht6 : t < 6 := by
          have hall : ∀ r, (ev_kn r).1 < 10 := by
            intro r
            by_cases h : r < 62
            · have h0 : ∀ r, r < 62 → (ev_kn r).1 < 6 := by decide +kernel
              have := h0 r h; omega
            · have hq : Nat.ble r 61 = false := by
                cases q : Nat.ble r 61 with
                | false => rfl
                | true => have := Nat.le_of_ble_eq_true q; omega
              unfold ev_kn
              rw [hq]
              simp only [cond_false]
              cases Nat.beq r 101 <;> cases Nat.beq r 102 <;> cases Nat.beq r 103 <;> simp
          have h10 := hall r
          rw [hkn] at h10
          have h10 : t < 10 := h10
          have a6 : t ≠ 6 := fun q => h6 q
          have a7 : t ≠ 7 := fun q => h7 q
          have a8 : t ≠ 8 := fun q => h8 q
          have a9 : t ≠ 9 := fun q => h9 q
          omega
        have a0 : t ≠ 0 := fun q => h0 q
        have hr : r < 62 := sd_kn62 (by rw [hkn]; exact ht6)
        obtain ⟨vs', rfl, hg, hs'⟩ := hs.consR (by omega)
        have hcell := hR.1 r i hr (sd_al62 hg hr)
        have key : ∀ (cA : ClassId) (f : Nat → Value) (ty : FieldType), H[sd_ad g r i]? = some (arrV cA k f) → s.isArrayOf (arrV cA k f) ty → W p l e R s m args below meth c H locs cl sl Q (F0 m pc vl (.ref (sd_ad g r i) :: vs')) := fun cA f ty h1 h2 =>
          W.alen (n := Int32.ofNat k) hx hb h1 h2 (by rw [arrV_size] <;> rfl) rfl rfl (sd_is_eq hck) (kk hev hl ⟨rfl, hs'⟩ hS hR)
        unfold sd_c at hcell
        rw [hkn] at hcell
        match t, hcell, a0, ht6 with
        | 1, h, _, _ => exact key _ _ _ h (hArr.1 _ _)
        | 2, h, _, _ => exact key _ _ _ h (hArr.2.1 _ _)
        | 3, h, _, _ => exact key _ _ _ h (hArr.2.2.1 _ _)
        | 4, h, _, _ => exact key _ _ _ h (hArr.2.2.2.1 _ _)
        | 5, h, _, _ => exact key _ _ _ h (hArr.2.2.2.2.1 _ _)
    · cases hev
  · -- a static array
    simp only [sd_k3, Bool.and_eq_true] at hck
    obtain ⟨hd, hlen, ha, hb3, hw⟩ := hck
    have el := Nat.eq_of_beq_eq_true hlen
    subst el
    have ea := Nat.eq_of_beq_eq_true ha
    subst ea
    have hb3 : b < 5 := Nat.le_of_ble_eq_true hb3
    have hZ := ((hX.2.2.2.2.1 b (by omega)).1 hb3).1
    have hk2 : W p l e R s m args below meth c H locs cl sl Q (F0 m (pc + 3) vl (.ref (g.2.2.2.2.2.1 b) :: vs)) := kk hev hl ⟨sd_vr (sd_gd4 hb3) (sd_kr1 (by omega)), hs⟩ hS hR
    rcases sd_wn_use hts hX hw with ⟨-, hl2⟩ | ⟨-, _, hl2⟩
    · exact va_gets hx hb hZ hS hown hl2 (fun _ h => h) (sd_is_eq hd) hk2
    · exact va_getsN hx hb hZ hS hown hl2 (fun _ h => h) (sd_is_eq hd) hk2
  · -- COMPACT_STRINGS
    simp only [sd_k3, Bool.and_eq_true, decide_eq_true_eq] at hck
    obtain ⟨hd, hlen, ex, hw⟩ := hck
    have el := Nat.eq_of_beq_eq_true hlen
    subst el
    subst ex
    exact va_gets hx hb hX.2.2.2.2.2.1 hS hown (hts _ (sd_at_in hw)) (fun _ h => h) (sd_is_eq hd) (kk hev hl ⟨rfl, hs⟩ hS hR)
  · -- a text
    simp only [sd_k3, Bool.and_eq_true, decide_eq_true_eq] at hck
    obtain ⟨ha, hc1, hc2, hd⟩ := hck
    have hZ := hX.2.2.1 a ha
    rw [hc1, hc2] at hZ
    have hkx : ∀ pc', K pc' ls (ev_R 100 a :: st) (n, lk, d, o) cl sl = some (res, μz) → W p l e R s m args below meth c H locs cl sl Q (F0 m pc' vl (.ref (g.2.2.2.1 a) :: vs)) := fun pc' hev => kk hev hl ⟨sd_vr (sd_gd3 (Or.inl rfl) ha) (sd_kr1 (by omega)), hs⟩ hS hR
    split at hd
    · simp only [Bool.and_eq_true] at hd
      have el := Nat.eq_of_beq_eq_true hd.2
      subst el
      exact va_ldcS hx hb hown hZ (sd_is_eq hd.1) (hkx _ hev)
    · simp only [Bool.and_eq_true] at hd
      have el := Nat.eq_of_beq_eq_true hd.2
      subst el
      have hd := sd_is_eq hd.1
      intro T hT X
      obtain ⟨t, a1, b1⟩ := hkx _ hev T hT X
      exact ⟨t, X.ldcStringW hx hown hZ.1 hZ.2 (g := F0 m pc vl vs) rfl (by rw [hb]; exact hd) t a1, b1⟩
  · -- a text's fields
    simp only [sd_k3, Bool.and_eq_true] at hck
    obtain ⟨hd, hlen, hw⟩ := hck
    have el := Nat.eq_of_beq_eq_true hlen
    subst el
    split at hev
    · rename_i r i rest
      cases hr : Nat.beq r 100 with
      | false => rw [hr] at hev; cases hev
      | true =>
        rw [hr] at hev
        have hr := Nat.eq_of_beq_eq_true hr
        subst hr
        obtain ⟨vs', rfl, hg, hs'⟩ := hs.consR (by decide)
        have hi := hg.2.1 (Or.inl rfl)
        have hst := hX.2.2.2.1 i hi
        simp only [cond_true] at hev
        split at hev
        · exact vk_getf hx hb hst.2.2.1 hS hown (hts _ (sd_at_in hw)) (fun _ h => h) (sd_is_eq hd) (kk hev hl ⟨sd_vr (sd_gd3 (Or.inr rfl) hi) (sd_kr1 (by omega)), hs'⟩ hS hR)
        · rename_i h0
          have hw : sd_at (tb.getD 1 0 + 70) (.fieldLink (sd_y mi).cls (tb.getD 0 0) "java/lang/String" "coder" "B") = true := by
            match a, h0, hw with
            | 0, h0, _ => exact absurd rfl h0
            | k + 1, _, hw => exact hw
          exact vk_getf hx hb hst.2.1 hS hown (hts _ (sd_at_in hw)) (fun _ h => h) (sd_is_eq hd) (kk hev hl ⟨rfl, hs'⟩ hS hR)
    · cases hev
  · -- a reference or null
    simp only [sd_k3, Bool.and_eq_true] at hck
    obtain ⟨hd, hlen, hw⟩ := hck
    have el := Nat.eq_of_beq_eq_true hlen
    subst el
    rcases hX.2.2.2.2.2.2.1 with hZ | ⟨q, hZ⟩
    · exact va_gets hx hb hZ hS hown (hts _ (sd_at_in hw)) (fun _ h => h) (sd_is_eq hd) (kk hev hl ⟨sd_v107 (Or.inl rfl), hs⟩ hS hR)
    · exact va_gets hx hb hZ hS hown (hts _ (sd_at_in hw)) (fun _ h => h) (sd_is_eq hd) (kk hev hl ⟨sd_v107 (Or.inr ⟨q, rfl⟩), hs⟩ hS hR)
  · cases hev
end SD7
