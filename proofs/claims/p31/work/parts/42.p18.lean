/-! THE LAW'S METHODS, 18: the reference reads a statement -/
/-- the reference has read what is written to p: layout t, settings s, requests a, what was said m, how many requests -/
def RD (d : Nat → Nat → Nat → Int32) (b : Nat → Int32) (len p : Nat) (t s a : Nat → Int32) (m : Int32) (C : Nat) : Prop := RH d b len p ∧ d 48 0 = t ∧ d 49 0 = s ∧ d 50 0 = a ∧ d 44 0 13 = m ∧ d 44 0 14 = Int32.ofNat C
section RD1
variable {n : Nat} {lk : Nat → Nat → Nat → Bool} {d d' : Nat → Nat → Nat → Int32} {o : ev_W} {b : Nat → Int32} {len p C : Nat} {t s a : Nat → Int32} {m : Int32} {P : ev_O × ev_M → Prop}
theorem RD_KR {p' : Nat} (h : RD d b len p t s a m C) (hf : KR d d') (hr : RH d' b len p') : RD d' b len p' t s a m C := by
  obtain ⟨-, h1, h2, h3, h4, h5⟩ := h
  exact ⟨hr, by rw [hf.1 48 (by decide), h1], by rw [hf.1 49 (by decide), h2], by rw [hf.1 50 (by decide), h3], by rw [hf.2 13 (.inr (by decide)), h4], by rw [hf.2 14 (.inr (by decide)), h5]⟩
theorem rd_word (hl : LK lk) {j : Nat} (hj : 24 ≤ j ∧ j < 35) (h : RH d b len p) (hw : tk_is b len p j) : ∀ j', 24 ≤ j' → j' < 35 → EV (138, 0, [ev_R 44 0, ev_R 100 j'], [], 0, 0) (n, lk, d, o) = some (.inl (some (ev_I (if j' = j then 1 else 0))), (n, lk, d, o)) := fun j' h1 h2 => by
  have hok : tk_ok j' := by
    have := tk_ok2 (k := j' - 24) (by omega)
    rwa [show 24 + (j' - 24) = j' by omega] at this
  obtain ⟨a1, a2⟩ := em_isWord (n := n) (o := o) hl hok h.1 h.2.1 h.2.2.1
  by_cases e : j' = j
  · subst e
    rw [if_pos rfl]
    exact a1 hw
  · rw [if_neg e]
    exact a2 (tk_no hj ⟨h1, h2⟩ e hw)
theorem rd_147 (hl : LK lk) {k : Nat} (hk : k < 7) (h : RH d b len p) (hw : tk_is b len p (28 + k)) : EV (147, 0, [ev_R 44 0], [], 0, 0) (n, lk, d, o) = some (.inl (some (ev_I (Int32.ofNat k))), (n, lk, d, o)) := by
  have ew := rd_word (n := n) (o := o) hl (j := 28 + k) (by omega) h hw
  refine EV_bk (k := 400) ?_
  match k, hk, ew with
  | 0, _, ew => rw [bk_147_0, ew 28 (by decide) (by decide)]; rfl
  | 1, _, ew => rw [bk_147_0, ew 28 (by decide) (by decide), if_neg (by decide), bi_ok, if_pos rfl, ew 29 (by decide) (by decide)]; rfl
  | 2, _, ew => rw [bk_147_0, ew 28 (by decide) (by decide), if_neg (by decide), bi_ok, if_pos rfl, ew 29 (by decide) (by decide), if_neg (by decide), bi_ok, if_pos rfl, ew 30 (by decide) (by decide)]; rfl
  | 3, _, ew => rw [bk_147_0, ew 28 (by decide) (by decide), if_neg (by decide), bi_ok, if_pos rfl, ew 29 (by decide) (by decide), if_neg (by decide), bi_ok, if_pos rfl, ew 30 (by decide) (by decide), if_neg (by decide), bi_ok, if_pos rfl, ew 31 (by decide) (by decide)]; rfl
  | 4, _, ew => rw [bk_147_0, ew 28 (by decide) (by decide), if_neg (by decide), bi_ok, if_pos rfl, ew 29 (by decide) (by decide), if_neg (by decide), bi_ok, if_pos rfl, ew 30 (by decide) (by decide), if_neg (by decide), bi_ok, if_pos rfl, ew 31 (by decide) (by decide), if_neg (by decide), bi_ok, if_pos rfl, ew 32 (by decide) (by decide)]; rfl
  | 5, _, ew => rw [bk_147_0, ew 28 (by decide) (by decide), if_neg (by decide), bi_ok, if_pos rfl, ew 29 (by decide) (by decide), if_neg (by decide), bi_ok, if_pos rfl, ew 30 (by decide) (by decide), if_neg (by decide), bi_ok, if_pos rfl, ew 31 (by decide) (by decide), if_neg (by decide), bi_ok, if_pos rfl, ew 32 (by decide) (by decide), if_neg (by decide), bi_ok, if_pos rfl, ew 33 (by decide) (by decide)]; rfl
  | 6, _, ew => rw [bk_147_0, ew 28 (by decide) (by decide), if_neg (by decide), bi_ok, if_pos rfl, ew 29 (by decide) (by decide), if_neg (by decide), bi_ok, if_pos rfl, ew 30 (by decide) (by decide), if_neg (by decide), bi_ok, if_pos rfl, ew 31 (by decide) (by decide), if_neg (by decide), bi_ok, if_pos rfl, ew 32 (by decide) (by decide), if_neg (by decide), bi_ok, if_pos rfl, ew 33 (by decide) (by decide), if_neg (by decide), bi_ok, if_pos rfl, ew 34 (by decide) (by decide)]; rfl
/-- a number at p, taken -/
theorem rd_num (hl : LK lk) (h : RD d b len p t s a m C) {v lo hi : Nat} {L : List Int32} (hv : v < 100) (hx : TX b p (32 :: dg v ++ L)) (hL : ∀ x, L.getD 0 0 = x → tk_c x ≠ 2) (hlen : p + 1 + (dg v).length < len) (hL1 : 1 ≤ L.length) (h1 : lo ≤ v) (h2 : v ≤ hi) (h3 : hi < 1000) :
    ∃ d', EV (141, 0, [ev_R 44 0, ev_I (Int32.ofNat lo), ev_I (Int32.ofNat hi)], [], 0, 0) (n, lk, d, o) = some (.inl (some (ev_I 1)), (n, lk, d', o)) ∧ KR d d' ∧ RD d' b len (p + 1 + (dg v).length) t s a m C ∧ d' 44 0 12 = Int32.ofNat v := by
  obtain ⟨k1, k2, k3⟩ := tk_num hv hx hL hlen hL1
  obtain ⟨d1, e1, f1, g1, g2⟩ := em_num1 (n := n) (o := o) hl h.1 (lo := Int32.ofNat lo) (hi := Int32.ofNat hi) ⟨k1, by rw [k3]; exact (ni_le (by omega) (by omega)).mpr h1, by rw [k3]; exact (ni_le (by omega) (by omega)).mpr h2⟩
  rw [k2] at g1
  exact ⟨d1, e1, f1, RD_KR h f1 g1, g2.trans k3⟩
theorem RD_u48 {k : Nat} {v : Int32} (h : RD d b len p t s a m C) : RD (ev_u3 d 48 0 k v) b len p (ev_u1 t k v) s a m C := by
  obtain ⟨h0, h1, h2, h3, h4, h5⟩ := h
  exact ⟨RH_47 h0 (u3n (by decide)) (fun k' _ => by rw [u3n (by decide)]), by rw [u3r, h1], by rw [u3n (by decide), h2], by rw [u3n (by decide), h3], by rw [u3n (by decide), h4], by rw [u3n (by decide), h5]⟩
theorem RD_u49 {k : Nat} {v : Int32} (h : RD d b len p t s a m C) : RD (ev_u3 d 49 0 k v) b len p t (ev_u1 s k v) a m C := by
  obtain ⟨h0, h1, h2, h3, h4, h5⟩ := h
  exact ⟨RH_47 h0 (u3n (by decide)) (fun k' _ => by rw [u3n (by decide)]), by rw [u3n (by decide), h1], by rw [u3r, h2], by rw [u3n (by decide), h3], by rw [u3n (by decide), h4], by rw [u3n (by decide), h5]⟩
theorem RD_u50 {k : Nat} {v : Int32} (h : RD d b len p t s a m C) : RD (ev_u3 d 50 0 k v) b len p t s (ev_u1 a k v) m C := by
  obtain ⟨h0, h1, h2, h3, h4, h5⟩ := h
  exact ⟨RH_47 h0 (u3n (by decide)) (fun k' _ => by rw [u3n (by decide)]), by rw [u3n (by decide), h1], by rw [u3n (by decide), h2], by rw [u3r, h3], by rw [u3n (by decide), h4], by rw [u3n (by decide), h5]⟩
/-- a place of the layout is told -/
theorem rd_lay (hl : LK lk) (h : RD d b len p t s a m C) {k v lo hi : Nat} {L : List Int32} (hk : k < 132) (hv : v < 100) (hx : TX b p (32 :: dg v ++ L)) (hL : ∀ x, L.getD 0 0 = x → tk_c x ≠ 2) (hlen : p + 1 + (dg v).length < len) (hL1 : 1 ≤ L.length) (h1 : lo ≤ v) (h2 : v ≤ hi) (h3 : hi < 1000) :
    ∃ d', EV (142, 0, [ev_R 44 0, ev_I (Int32.ofNat k), ev_I (Int32.ofNat lo), ev_I (Int32.ofNat hi)], [], 0, 0) (n, lk, d, o) = some (.inl (some (ev_I 1)), (n, lk, d', o)) ∧ KT d d' ∧ RD d' b len (p + 1 + (dg v).length) (ev_u1 t k (Int32.ofNat v)) s a m C := by
  obtain ⟨d1, e1, f1, g1, g2⟩ := rd_num (n := n) (o := o) hl h hv hx hL hlen hL1 h1 h2 h3
  refine ⟨ev_u3 d1 48 0 k (Int32.ofNat v), EV_bk (k := 400) ?_, KT_t (KT_KR f1) (KT_u (.inl rfl)), RD_u48 g1⟩
  rw [bk_142_0, e1, bi_ok, if_neg (by decide)]
  simp only [hl 44 0 15 rfl (by decide) (by decide), cond_true, ni_in (n := k) (N := 132) (by omega) (by omega), ni_c (n := k) (by omega), g2]
/-- a semicolon -/
theorem rd_semi (hl : LK lk) (h : RD d b len p t s a m C) (h0 : b p = 59) (hlen : p < len) : ∃ d', EV (143, 0, [ev_R 44 0], [], 0, 0) (n, lk, d, o) = some (.inl (some (ev_I 1)), (n, lk, d', o)) ∧ KR d d' ∧ RD d' b len (p + 1) t s a m C := by
  obtain ⟨k1, k2⟩ := tk_semi hlen h0
  obtain ⟨d1, e1, f1, g1⟩ := em_semi1 (n := n) (o := o) hl h.1 k1
  rw [k2] at g1
  exact ⟨d1, e1, f1, RD_KR h f1 g1⟩
/-- something is said for the first time -/
theorem rd_once (hl : LK lk) (h : RD d b len p t s a m C) {k p' : Nat} (hm : tb m k) (he : tk_e b len p = p') :
    ∃ d', EV (144, 0, [ev_R 44 0, ev_I (Int32.ofNat k)], [], 0, 0) (n, lk, d, o) = some (.inl (some (ev_I 1)), (n, lk, d', o)) ∧ KT d d' ∧ RD d' b len p' t s a (m ||| ((1 : Int32) <<< (Int32.ofNat k &&& 31))) C := by
  obtain ⟨h0, h1, h2, h3, h4, h5⟩ := h
  obtain ⟨d1, e1, f1, g1⟩ := em_once1 (n := n) (o := o) hl h0 (k := k) (by rw [h4]; exact hm)
  rw [he] at g1
  refine ⟨d1, e1, KT_t (KT_44 (k := 13) (by decide) (by decide)) (KT_KR (KR_PF f1)), g1, by rw [f1.1 48 (by decide), u3n (by decide), h1], by rw [f1.1 49 (by decide), u3n (by decide), h2], by rw [f1.1 50 (by decide), u3n (by decide), h3], by rw [f1.2 13 (by decide), u3s, h4], by rw [f1.2 14 (by decide), u3x (by decide), h5]⟩
theorem semi_c : ∀ (L : List Int32) (x : Int32), ((59 : Int32) :: L).getD 0 0 = x → tk_c x ≠ 2 := fun L x h => by
  have : x = 59 := h.symm
  rw [this]
  decide
theorem blank_c : ∀ (L : List Int32) (x : Int32), ((32 : Int32) :: L).getD 0 0 = x → tk_c x ≠ 2 := fun L x h => by
  have : x = 32 := h.symm
  rw [this]
  decide
/-- word k of the settings and its number -/
theorem rd_setting (hl : LK lk) (h : RD d b len p t s a m C) {k v : Nat} {L : List Int32} (hk : k < 7) (hv : v < 100) (hm : tb m k) (hx : TX b p (sbl (28 + k) ++ (32 :: dg v ++ (59 :: L)))) (hlen : p + ev_sl (28 + k) + 1 + (dg v).length + 1 ≤ len) (h1 : ev_sa 0 k ≤ Int32.ofNat v) (h2 : Int32.ofNat v ≤ ev_sa 1 k) :
    ∃ d', EV (149, 0, [ev_R 44 0], [], 0, 0) (n, lk, d, o) = some (.inl (some (ev_I 1)), (n, lk, d', o)) ∧ KT d d' ∧ RD d' b len (p + ev_sl (28 + k) + 1 + (dg v).length) t (ev_u1 s k (Int32.ofNat v)) a (m ||| ((1 : Int32) <<< (Int32.ofNat k &&& 31))) C := by
  have hx' := TX_app.mp hx
  obtain ⟨w1, w2⟩ := tk_word (j := 28 + k) (by omega) hx (fun x hx => by
    have : x = 32 := hx.symm
    rw [this]
    decide) (len := len) (by omega) (by simp)
  have ew := rd_word (n := n) (o := o) hl (j := 28 + k) (by omega) h.1 w1
  obtain ⟨lo, hlo2, elo⟩ := ev_sa0_n k hk
  obtain ⟨hi, hhi4, hhi1, ehi, -⟩ := ev_sa1_n k hk
  rw [elo] at h1
  rw [ehi] at h2
  obtain ⟨d1, e1, f1, g1⟩ := rd_once (n := n) (o := o) hl h hm w2
  obtain ⟨d2, e2, f2, g2, g3⟩ := rd_num (n := n) (o := o) hl g1 (lo := lo) (hi := hi) hv hx'.2 (semi_c L) (by rw [sbl_len] at *; omega) (by simp) ((ni_le (by omega) (by omega)).mp h1) ((ni_le (by omega) (by omega)).mp h2) (by omega)
  have e148 : EV (148, 0, [ev_R 44 0, ev_I (Int32.ofNat k)], [], 0, 0) (n, lk, d, o) = some (.inl (some (ev_I 1)), (n, lk, ev_u3 d2 49 0 k (Int32.ofNat v), o)) := by
    refine EV_bk (k := 400) ?_
    rw [bk_148_0, e1, bi_ok, if_neg (by decide), em_lowOf hk, bi_ok, em_highOf hk, bi_ok, elo, ehi, e2, bi_ok, if_neg (by decide)]
    simp only [hl 44 0 16 rfl (by decide) (by decide), cond_true, ni_in (n := k) (N := 8) (by omega) (by omega), ni_c (n := k) (by omega), g3]
  have hne : ¬ Int32.ofNat k = -1 := fun z => by
    have := congrArg Int32.toInt z
    rw [ni_t (by omega)] at this
    have e : (-1 : Int32).toInt = -1 := by decide
    omega
  refine ⟨ev_u3 d2 49 0 k (Int32.ofNat v), EV_bk (k := 400) ?_, KT_t f1 (KT_t (KT_KR f2) (KT_u (.inr (.inl rfl)))), RD_u49 g2⟩
  rw [bk_149_0, ew 25 (by decide) (by decide), if_neg (by omega), bi_ok, if_pos rfl, ew 26 (by decide) (by decide), if_neg (by omega), bi_ok, if_pos rfl, ew 27 (by decide) (by decide), if_neg (by omega), bi_ok, if_pos rfl, rd_147 hl hk h.1 w1, bi_ok, if_neg hne, e148, bi_ok]
  rfl
/-- trading -/
theorem rd_trading (hl : LK lk) (h : RD d b len p t s a m C) {L : List Int32} (hm : tb m 7) (hx : TX b p (sbl 27 ++ (59 :: L))) (hlen : p + ev_sl 27 + 1 ≤ len) :
    ∃ d', EV (149, 0, [ev_R 44 0], [], 0, 0) (n, lk, d, o) = some (.inl (some (ev_I 1)), (n, lk, d', o)) ∧ KT d d' ∧ RD d' b len (p + ev_sl 27) t (ev_u1 s 7 1) a (m ||| ((1 : Int32) <<< (Int32.ofNat 7 &&& 31))) C := by
  obtain ⟨w1, w2⟩ := tk_word (j := 27) (by omega) hx (fun x hx => by
    have : x = 59 := hx.symm
    rw [this]
    decide) (len := len) (by omega) (by simp)
  have ew := rd_word (n := n) (o := o) hl (j := 27) (by omega) h.1 w1
  obtain ⟨d1, e1, f1, g1⟩ := rd_once (n := n) (o := o) hl (RD_u49 (k := 7) (v := 1) h) hm w2
  refine ⟨d1, EV_bk (k := 400) ?_, KT_t (KT_u (.inr (.inl rfl))) f1, g1⟩
  rw [bk_149_0, ew 25 (by decide) (by decide), if_neg (by decide), bi_ok, if_pos rfl, ew 26 (by decide) (by decide), if_neg (by decide), bi_ok, if_pos rfl, ew 27 (by decide) (by decide), if_pos rfl, bi_ok, if_neg (by decide)]
  show (bif lk 44 0 16 then ev_bi (EV (144, 0, [ev_R 44 0, ev_I (Int32.ofNat 7)], [], 0, 0) (n, lk, ev_u3 d 49 0 7 1, o)) ev_tr _ else none) = _
  rw [hl 44 0 16 rfl (by decide) (by decide), cond_true, e1, bi_ok]
  rfl
/-- a request: its tick, bank and row -/
theorem rd_ask (hl : LK lk) (h : RD d b len p t s a m C) {B R at0 x r : Nat} {L : List Int32} (hC : C < 20) (hB : t 0 = Int32.ofNat B) (hR : t 1 = Int32.ofNat R) (hB1 : 1 ≤ B) (hR1 : 1 ≤ R) (hB4 : B ≤ 4) (hR16 : R ≤ 16) (ha : at0 < 100) (hb : x < B) (hr : r < R)
    (hx : TX b p (sbl 26 ++ (32 :: dg at0 ++ (32 :: dg x ++ (32 :: dg r ++ (59 :: L)))))) (hlen : p + ev_sl 26 + 1 + (dg at0).length + 1 + (dg x).length + 1 + (dg r).length + 1 ≤ len) :
    ∃ d', EV (149, 0, [ev_R 44 0], [], 0, 0) (n, lk, d, o) = some (.inl (some (ev_I 1)), (n, lk, d', o)) ∧ KT d d' ∧ RD d' b len (p + ev_sl 26 + 1 + (dg at0).length + 1 + (dg x).length + 1 + (dg r).length) t s (ev_u1 (ev_u1 (ev_u1 a (3 * C + 2) (Int32.ofNat at0)) (3 * C) (Int32.ofNat x)) (3 * C + 1) (Int32.ofNat r)) m (C + 1) := by
  have hx1 := (TX_app.mp hx).2
  rw [sbl_len] at hx1
  have hx2 : TX b (p + ev_sl 26 + 1 + (dg at0).length) (32 :: dg x ++ (32 :: dg r ++ (59 :: L))) := by
    have := (TX_app.mp (TX_cons (L := dg at0 ++ (32 :: dg x ++ (32 :: dg r ++ (59 :: L)))) hx1).2).2
    exact this
  have hx3 : TX b (p + ev_sl 26 + 1 + (dg at0).length + 1 + (dg x).length) (32 :: dg r ++ (59 :: L)) := by
    have := (TX_app.mp (TX_cons (L := dg x ++ (32 :: dg r ++ (59 :: L))) hx2).2).2
    exact this
  obtain ⟨w1, w2⟩ := tk_word (j := 26) (by omega) hx (fun x hx => by
    have : x = 32 := hx.symm
    rw [this]
    decide) (len := len) (by omega) (by simp)
  have ew := rd_word (n := n) (o := o) hl (j := 26) (by omega) h.1 w1
  have i0 : (3 : Int32) * Int32.ofNat C = Int32.ofNat (3 * C) := by rw [Int32.ofNat_mul]; rfl
  have i1 : Int32.ofNat (3 * C) + 1 = Int32.ofNat (3 * C + 1) := by rw [Int32.ofNat_add]; rfl
  have i2 : Int32.ofNat (3 * C) + 2 = Int32.ofNat (3 * C + 2) := by rw [Int32.ofNat_add]; rfl
  have eB : Int32.ofNat B - 1 = Int32.ofNat (B - 1) := ni_sb (b := 1) hB1
  have eR : Int32.ofNat R - 1 = Int32.ofNat (R - 1) := ni_sb (b := 1) hR1
  -- the word
  obtain ⟨d1, e1, f1, g1⟩ := em_starts1 (n := n) (o := o) (x := 4) hl h.1
  rw [w2] at g1
  have h1 := RD_KR h (KR_PF f1) g1
  obtain ⟨d2, e2, f2, g2, g3⟩ := rd_num (n := n) (o := o) hl h1 (lo := 0) (hi := 999) ha hx1 (blank_c _) (by omega) (by simp) (by omega) (by omega) (by omega)
  have h2 := RD_u50 (k := 3 * C + 2) (v := Int32.ofNat at0) g2
  obtain ⟨d3, e3, f3, g4, g5⟩ := rd_num (n := n) (o := o) hl h2 (lo := 0) (hi := B - 1) (by omega) hx2 (blank_c _) (by omega) (by simp) (by omega) (by omega) (by omega)
  have h3 := RD_u50 (k := 3 * C) (v := Int32.ofNat x) g4
  obtain ⟨d4, e4, f4, g6, g7⟩ := rd_num (n := n) (o := o) hl h3 (lo := 0) (hi := R - 1) (by omega) hx3 (semi_c L) (by omega) (by simp) (by omega) (by omega) (by omega)
  have h4 := RD_u50 (k := 3 * C + 1) (v := Int32.ofNat r) g6
  have c14 : d4 44 0 14 = Int32.ofNat C := g6.2.2.2.2.2
  have h5 : RD (ev_u3 (ev_u3 d4 50 0 (3 * C + 1) (Int32.ofNat r)) 44 0 14 (Int32.ofNat (C + 1))) b len (p + ev_sl 26 + 1 + (dg at0).length + 1 + (dg x).length + 1 + (dg r).length) t s (ev_u1 (ev_u1 (ev_u1 a (3 * C + 2) (Int32.ofNat at0)) (3 * C) (Int32.ofNat x)) (3 * C + 1) (Int32.ofNat r)) m (C + 1) := by
    obtain ⟨z0, z1, z2, z3, z4, z5⟩ := h4
    exact ⟨RH_47 z0 (u3n (by decide)) (fun k' hk' => u3x (by omega)), by rw [u3n (by decide), z1], by rw [u3n (by decide), z2], by rw [u3n (by decide), z3], by rw [u3x (by decide), z4], u3s⟩
  refine ⟨_, EV_bk (k := 400) ?_, ?_, h5⟩
  · have e146 : EV (146, 0, [ev_R 44 0], [], 0, 0) (n, lk, d, o) = some (.inl (some (ev_I 1)), (n, lk, ev_u3 (ev_u3 d4 50 0 (3 * C + 1) (Int32.ofNat r)) 44 0 14 (Int32.ofNat (C + 1)), o)) := by
      refine EV_bk (k := 400) ?_
      rw [bk_146_0, h.2.2.2.2.2, if_pos (show Int32.ofNat C < 20 from (ni_lt (b := 20) (by omega) (by omega)).mpr hC), e1, bi_ok, if_neg (by decide), show (0 : Int32) = Int32.ofNat 0 from rfl, show (999 : Int32) = Int32.ofNat 999 from rfl, e2, bi_ok, if_neg (by decide)]
      simp only [g2.2.2.2.2.2, g2.2.1, hB, eB, i0, i1, i2, g3, hl 44 0 17 rfl (by decide) (by decide), hl 44 0 15 rfl (by decide) (by decide), cond_true, ni_in (n := 3 * C + 2) (N := 60) (by omega) (by omega), ni_c (n := 3 * C + 2) (by omega)]
      rw [e3, bi_ok, if_neg (by decide)]
      simp only [g4.2.2.2.2.2, g4.2.1, hR, eR, i0, i1, i2, g5, hl 44 0 17 rfl (by decide) (by decide), hl 44 0 15 rfl (by decide) (by decide), cond_true, ni_in (n := 3 * C) (N := 60) (by omega) (by omega), ni_c (n := 3 * C) (by omega)]
      rw [e4, bi_ok, if_neg (by decide)]
      simp only [c14, i0, i1, g7, hl 44 0 17 rfl (by decide) (by decide), cond_true, ni_in (n := 3 * C + 1) (N := 60) (by omega) (by omega), ni_c (n := 3 * C + 1) (by omega), ni_1]
    rw [bk_149_0, ew 25 (by decide) (by decide), if_neg (by decide), bi_ok, if_pos rfl, ew 26 (by decide) (by decide), if_pos rfl, bi_ok, if_neg (by decide), e146, bi_ok]
    rfl
  · exact KT_t (KT_KR (KR_PF f1)) (KT_t (KT_KR f2) (KT_t (KT_u (.inr (.inr rfl))) (KT_t (KT_KR f3) (KT_t (KT_u (.inr (.inr rfl))) (KT_t (KT_KR f4) (KT_t (KT_u (.inr (.inr rfl))) (KT_44 (by decide) (by decide))))))))
end RD1
