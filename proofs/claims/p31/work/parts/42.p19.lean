/-! THE LAW'S METHODS, 19: the reference reads a text -/
section RD2
variable {n : Nat} {lk : Nat → Nat → Nat → Bool} {d d' : Nat → Nat → Nat → Int32} {o : ev_W} {b : Nat → Int32} {len p C : Nat} {t s a : Nat → Int32} {m : Int32} {P : ev_O × ev_M → Prop}
/-- a weak row -/
theorem rd_weak (hl : LK lk) (h : RD d b len p t s a m C) {B R x r own fr : Nat} {L : List Int32} (hB : t 0 = Int32.ofNat B) (hR : t 1 = Int32.ofNat R) (hB1 : 1 ≤ B) (hR1 : 1 ≤ R) (hB4 : B ≤ 4) (hR16 : R ≤ 16) (hb : x < B) (hr : r < R) (ho1 : 1 ≤ own) (ho : own < 100) (hf : fr < 100) (ht : t (4 + 2 * (16 * x + r)) ≤ 0)
    (hx : TX b p (sbl 25 ++ (32 :: dg x ++ (32 :: dg r ++ (32 :: dg own ++ (32 :: dg fr ++ (59 :: L))))))) (hlen : p + ev_sl 25 + 1 + (dg x).length + 1 + (dg r).length + 1 + (dg own).length + 1 + (dg fr).length + 1 ≤ len) :
    ∃ d', EV (149, 0, [ev_R 44 0], [], 0, 0) (n, lk, d, o) = some (.inl (some (ev_I 1)), (n, lk, d', o)) ∧ KT d d' ∧ RD d' b len (p + ev_sl 25 + 1 + (dg x).length + 1 + (dg r).length + 1 + (dg own).length + 1 + (dg fr).length) (ev_u1 (ev_u1 t (4 + 2 * (16 * x + r)) (Int32.ofNat own)) (4 + 2 * (16 * x + r) + 1) (Int32.ofNat fr)) s a m C := by
  have hx1 := (TX_app.mp hx).2
  rw [sbl_len] at hx1
  have hx2 : TX b (p + ev_sl 25 + 1 + (dg x).length) (32 :: dg r ++ (32 :: dg own ++ (32 :: dg fr ++ (59 :: L)))) := (TX_app.mp (TX_cons (L := dg x ++ (32 :: dg r ++ (32 :: dg own ++ (32 :: dg fr ++ (59 :: L))))) hx1).2).2
  have hx3 : TX b (p + ev_sl 25 + 1 + (dg x).length + 1 + (dg r).length) (32 :: dg own ++ (32 :: dg fr ++ (59 :: L))) := (TX_app.mp (TX_cons (L := dg r ++ (32 :: dg own ++ (32 :: dg fr ++ (59 :: L)))) hx2).2).2
  have hx4 : TX b (p + ev_sl 25 + 1 + (dg x).length + 1 + (dg r).length + 1 + (dg own).length) (32 :: dg fr ++ (59 :: L)) := (TX_app.mp (TX_cons (L := dg own ++ (32 :: dg fr ++ (59 :: L))) hx3).2).2
  obtain ⟨w1, w2⟩ := tk_word (j := 25) (by omega) hx (fun x hx => by
    have : x = 32 := hx.symm
    rw [this]
    decide) (len := len) (by omega) (by simp)
  have ew := rd_word (n := n) (o := o) hl (j := 25) (by omega) h.1 w1
  have eB : Int32.ofNat B - 1 = Int32.ofNat (B - 1) := ni_sb (b := 1) hB1
  have eR : Int32.ofNat R - 1 = Int32.ofNat (R - 1) := ni_sb (b := 1) hR1
  have eK : ((4 : Int32) + ((2 : Int32) * (((16 : Int32) * Int32.ofNat x) + Int32.ofNat r))) = Int32.ofNat (4 + 2 * (16 * x + r)) := ni_K x r
  obtain ⟨d1, e1, f1, g1⟩ := em_next (n := n) (o := o) hl h.1
  rw [w2] at g1
  have h1 := RD_KR h (KR_PF f1) g1
  obtain ⟨d2, e2, f2, g2, g3⟩ := rd_num (n := n) (o := o) hl h1 (lo := 0) (hi := B - 1) (by omega) hx1 (blank_c _) (by omega) (by simp) (by omega) (by omega) (by omega)
  obtain ⟨k1, k2, k3⟩ := tk_num (by omega) hx2 (blank_c _) (len := len) (by omega) (by simp)
  have t8 : d2 44 0 8 = 2 := g2.1.2.2.1.2.2.1.trans k1
  have t9 : d2 44 0 9 = Int32.ofNat r := (g2.1.2.2.1.2.2.2 k1).trans k3
  obtain ⟨d3, e3, f3, g4, g5⟩ := rd_num (n := n) (o := o) hl g2 (lo := 0) (hi := R - 1) (by omega) hx2 (blank_c _) (by omega) (by simp) (by omega) (by omega) (by omega)
  obtain ⟨d4, e4, f4, g6⟩ := rd_lay (n := n) (o := o) hl g4 (k := 4 + 2 * (16 * x + r)) (lo := 1) (hi := 999) (by omega) ho hx3 (blank_c _) (by omega) (by simp) ho1 (by omega) (by omega)
  obtain ⟨d5, e5, f5, g7⟩ := rd_lay (n := n) (o := o) hl g6 (k := 4 + 2 * (16 * x + r) + 1) (lo := 0) (hi := 999) (by omega) hf hx4 (semi_c L) (by omega) (by simp) (by omega) (by omega) (by omega)
  refine ⟨d5, EV_bk (k := 400) ?_, KT_t (KT_KR (KR_PF f1)) (KT_t (KT_KR f2) (KT_t (KT_KR f3) (KT_t f4 f5))), g7⟩
  have e145 : EV (145, 0, [ev_R 44 0], [], 0, 0) (n, lk, d, o) = some (.inl (some (ev_I 1)), (n, lk, d5, o)) := by
    refine EV_bk (k := 400) ?_
    rw [bk_145_0, e1, bv_ok]
    simp only [hl 44 0 15 rfl (by decide) (by decide), cond_true, h1.2.1, hB, eB]
    rw [show (0 : Int32) = Int32.ofNat 0 from rfl, e2, bi_ok, if_neg (show ¬ (1 : Int32) = Int32.ofNat 0 by decide)]
    simp only [t8, t9, g3, g2.2.1, hR, eR, eK, hl 44 0 15 rfl (by decide) (by decide), cond_true, ni_in (n := 4 + 2 * (16 * x + r)) (N := 132) (by omega) (by omega), ni_c (n := 4 + 2 * (16 * x + r)) (by omega)]
    rw [if_pos trivial, if_pos ((ni_lt (by omega) (by omega)).mpr hr), if_pos (show t (4 + 2 * (16 * x + r)) ≤ Int32.ofNat 0 from ht), e3, bi_ok, if_neg (show ¬ (1 : Int32) = Int32.ofNat 0 by decide)]
    simp only [g5, eK, ni_1]
    rw [show (999 : Int32) = Int32.ofNat 999 from rfl, show (1 : Int32) = Int32.ofNat 1 from rfl, e4]
    rw [show (some (Sum.inl (some (ev_I 1)), (n, lk, d4, o)) : ev_T) = some (Sum.inl (some (ev_I (Int32.ofNat 1))), (n, lk, d4, o)) from rfl, bi_ok, if_neg (show ¬ Int32.ofNat 1 = Int32.ofNat 0 by decide), e5]
    rfl
  rw [bk_149_0, ew 25 (by decide) (by decide), if_pos rfl, bi_ok, if_neg (by decide), e145, bi_ok]
  rfl
/-- what holds when the reference begins to read -/
def RI (d : Nat → Nat → Nat → Int32) (b : Nat → Int32) (len : Nat) : Prop := ∃ L, d 44 0 4 = Int32.ofNat L ∧ len ≤ L ∧ L ≤ 600 ∧ ∀ x, x < len → d 47 0 x = b x ∧ ms_rg (b x) (-128) 127
/-- it reads to N -/
def RS (lk : Nat → Nat → Nat → Bool) (b : Nat → Int32) (len N : Nat) (t s a : Nat → Int32) (m : Int32) (C : Nat) : Prop := ∀ n o d P, RI d b len →
  (∀ d', KU d d' → (∃ t' s' a', RD d' b len N t' s' a' m C ∧ (∀ k, k < 132 → t' k = t k) ∧ (∀ k, k < 8 → s' k = s k) ∧ ∀ k, k < 3 * C → a' k = a k) → ER (151, 136, [ev_R 44 0, ev_I (Int32.ofNat len), ev_I 1], [], 0, 0) (n, lk, d', o) P) → ER (151, 0, [ev_R 44 0, ev_I (Int32.ofNat len)], [], 0, 0) (n, lk, d, o) P
theorem u1_cg {w w' : Nat → Int32} {N k : Nat} {v : Int32} (h : ∀ j, j < N → w j = w' j) : ∀ j, j < N → ev_u1 w k v j = ev_u1 w' k v j := fun j hj => by
  by_cases e : j = k
  · subst e
    rw [u1s, u1s]
  · rw [u1n e, u1n e, h j hj]
/-- one statement more -/
theorem RS_st (hl : LK lk) {N N' : Nat} {t2 s2 a2 : (Nat → Int32) → Nat → Int32} {m2 : Int32} {C2 : Nat} (h : RS lk b len N t s a m C) (hk : tk_k b len N ≠ 0) (h0 : b N' = 59) (hN : N' < len)
    (hst : ∀ n o d' t' s' a', RD d' b len N t' s' a' m C → (∀ k, k < 132 → t' k = t k) → ∃ d1, EV (149, 0, [ev_R 44 0], [], 0, 0) (n, lk, d', o) = some (.inl (some (ev_I 1)), (n, lk, d1, o)) ∧ KT d' d1 ∧ RD d1 b len N' (t2 t') (s2 s') (a2 a') m2 C2)
    (ht : ∀ t', (∀ k, k < 132 → t' k = t k) → ∀ k, k < 132 → t2 t' k = t2 t k) (hs : ∀ s', (∀ k, k < 8 → s' k = s k) → ∀ k, k < 8 → s2 s' k = s2 s k) (ha : ∀ a', (∀ k, k < 3 * C → a' k = a k) → ∀ k, k < 3 * C2 → a2 a' k = a2 a k) : RS lk b len (N' + 1) (t2 t) (s2 s) (a2 a) m2 C2 := by
  intro n o d P hd kk
  refine h n o d P hd fun d' hu hr => ?_
  obtain ⟨t', s', a', hR, q1, q2, q3⟩ := hr
  obtain ⟨d1, e1, f1, g1⟩ := hst n o d' t' s' a' hR q1
  obtain ⟨d2, e2, f2, g2⟩ := rd_semi (n := n) (o := o) hl g1 h0 hN
  have k8 : ¬ d' 44 0 8 = 0 := by
    rw [hR.1.2.2.1.2.2.1]
    exact hk
  refine ER_bk ?_
  rw [bk_151_136, if_neg (by decide), if_neg k8, e1, bi_ok, if_neg (by decide), e2, bi_ok, if_neg (by decide)]
  exact kk d2 (KU_KT hu (KT_t f1 (KT_KR f2))) ⟨_, _, _, g2, ht t' q1, hs s' q2, ha a' q3⟩
/-- the end of the text -/
theorem RS_end (hl : LK lk) (h : RS lk b len len t s a m C) (hC : C ≤ 20) (hd : RI d b len) : ∃ d', EV (151, 0, [ev_R 44 0, ev_I (Int32.ofNat len)], [], 0, 0) (n, lk, d, o) = some (.inl (some (ev_I 0)), (n, lk, d', o)) ∧ (∀ k, k < 132 → d' 45 0 k = t k) ∧ ∀ k, k < 615 → d' 46 0 k = pw s a C k := by
  have key := h n o d (fun r => ∃ d', r = (.inl (some (ev_I 0)), (n, lk, d', o)) ∧ (∀ k, k < 132 → d' 45 0 k = t k) ∧ ∀ k, k < 615 → d' 46 0 k = pw s a C k) hd fun d1 _ hr => by
    obtain ⟨t', s', a', hR, q1, q2, q3⟩ := hr
    obtain ⟨d2, e2, -, -, x1, x2, -⟩ := em_begins (n := n) (o := o) hl hR.2.2.2.2.2 hC
    have k8 : d1 44 0 8 = 0 := hR.1.2.2.1.2.2.1.trans tk_end
    refine ER_bk ?_
    rw [bk_151_136, if_neg (by decide), if_pos k8, if_neg (by decide), e2, bv_ok]
    refine ⟨_, rfl, d2, rfl, fun k hk => ?_, fun k hk => ?_⟩
    · rw [x1 k hk, hR.2.1, q1 k hk]
    · rw [x2 k hk, hR.2.2.1, hR.2.2.2.1, pw_a C q3]
      by_cases k8 : k < 8
      · rw [pw_lo k8, pw_lo k8, q2 k k8]
      · rw [pw_s (by omega) C]
  obtain ⟨r, h1, d', h2, h3⟩ := key
  exact ⟨d', by rw [h1, h2], h3⟩
/-- how a text begins -/
theorem RS_head (hl : LK lk) {B R bd iv : Nat} {L : List Int32} (hB1 : 1 ≤ B) (hB4 : B ≤ 4) (hR1 : 1 ≤ R) (hR16 : R ≤ 16) (hb4 : 4 ≤ bd) (hb : bd < 100) (hi1 : 1 ≤ iv) (hi : iv < 100)
    (hx : TX b 0 (sbl 24 ++ (32 :: dg B ++ (32 :: dg R ++ (32 :: dg bd ++ (32 :: dg iv ++ (59 :: L))))))) (hlen : ev_sl 24 + 1 + (dg B).length + 1 + (dg R).length + 1 + (dg bd).length + 1 + (dg iv).length + 1 ≤ len) :
    RS lk b len (ev_sl 24 + 1 + (dg B).length + 1 + (dg R).length + 1 + (dg bd).length + 1 + (dg iv).length + 1) (ev_u1 (ev_u1 (ev_u1 (ev_u1 (fun _ => 0) 0 (Int32.ofNat B)) 1 (Int32.ofNat R)) 2 (Int32.ofNat bd)) 3 (Int32.ofNat iv)) us_s (fun _ => 0) 0 0 := by
  intro n o d P hd kk
  obtain ⟨LL, hL, hll, h6, hbb⟩ := hd
  have z0 : ∀ x : Nat, 0 + x = x := Nat.zero_add
  have hx1 := (TX_app.mp hx).2
  rw [sbl_len, z0] at hx1
  have hx2 : TX b (ev_sl 24 + 1 + (dg B).length) (32 :: dg R ++ (32 :: dg bd ++ (32 :: dg iv ++ (59 :: L)))) := (TX_app.mp (TX_cons (L := dg B ++ (32 :: dg R ++ (32 :: dg bd ++ (32 :: dg iv ++ (59 :: L))))) hx1).2).2
  have hx3 : TX b (ev_sl 24 + 1 + (dg B).length + 1 + (dg R).length) (32 :: dg bd ++ (32 :: dg iv ++ (59 :: L))) := (TX_app.mp (TX_cons (L := dg R ++ (32 :: dg bd ++ (32 :: dg iv ++ (59 :: L)))) hx2).2).2
  have hx4 : TX b (ev_sl 24 + 1 + (dg B).length + 1 + (dg R).length + 1 + (dg bd).length) (32 :: dg iv ++ (59 :: L)) := (TX_app.mp (TX_cons (L := dg bd ++ (32 :: dg iv ++ (59 :: L))) hx3).2).2
  have hx5 : b (ev_sl 24 + 1 + (dg B).length + 1 + (dg R).length + 1 + (dg bd).length + 1 + (dg iv).length) = 59 := (TX_cons (TX_app.mp (TX_cons (L := dg iv ++ (59 :: L)) hx4).2).2).1
  have i129 : EV (129, 0, [ev_I (Int32.ofNat len), ev_I 0, ev_I (Int32.ofNat LL)], [], 0, 0) (n, lk, ev_u3 d 44 0 0 0, o) = some (.inl (some (ev_I 1)), (n, lk, ev_u3 d 44 0 0 0, o)) := em_in ⟨ni_lo (by omega), (ni_le (by omega) (by omega)).mpr hll⟩
  have f0 : ev_u3 d 44 0 0 0 44 0 4 = Int32.ofNat LL := by rw [u3x (by decide), hL]
  have i130 := em_throws0 (n := n) (lk := lk) (o := o) (d := ev_u3 d 44 0 0 0) (k := 1) u3s
  obtain ⟨dy, ey, ⟨fy1, fy2⟩, y48, y49, y13, y14⟩ := em_clears (n := n) (lk := lk) (o := o) (d := ev_u3 (ev_u3 (ev_u3 (ev_u3 (ev_u3 (ev_u3 d 44 0 0 0) 44 0 5 (Int32.ofNat len)) 44 0 4 0) 44 0 7 0) 44 0 10 0) 44 0 11 (-1)) (hl 44 0 15 rfl (by decide) (by decide)) (hl 44 0 16 rfl (by decide) (by decide))
  have tby : TB dy b len := ⟨by omega, by rw [fy2 5 (by decide), u3x (by decide), u3x (by decide), u3x (by decide), u3x (by decide), u3s], fun x hx => by
    rw [fy1 47 (by decide) (by decide) (by decide), u3n (by decide), u3n (by decide), u3n (by decide), u3n (by decide), u3n (by decide), u3n (by decide)]
    exact hbb x hx⟩
  obtain ⟨dx, ex, fx, gx⟩ := em_adv (n := n) (o := o) hl (p := 0) (Nat.zero_le _) tby (by rw [fy2 7 (by decide), u3x (by decide), u3x (by decide), u3s]; rfl)
  have hr0 : RH dx b len 0 := ⟨Nat.zero_le _, TB_PF tby fx, gx, by rw [fx.2 10 (by decide), fy2 10 (by decide), u3x (by decide), u3s], by rw [fx.2 11 (by decide), fy2 11 (by decide), u3s]⟩
  have ku : KU d dx := by
    refine ⟨fun r h1 h2 h3 h4 => ?_, fun k hk => ?_, ?_, ?_⟩
    · rw [fx.1 r h1, fy1 r h1 h2 h3, u3n h1, u3n h1, u3n h1, u3n h1, u3n h1, u3n h1]
    · rw [fx.2 k (by omega), fy2 k (by omega), u3x (by omega), u3x (by omega), u3x (by omega), u3x (by omega), u3x (by omega), u3x (by omega)]
    · rw [fx.2 0 (by decide), fy2 0 (by decide), u3x (by decide), u3x (by decide), u3x (by decide), u3x (by decide), u3x (by decide), u3s]
    · rw [fx.2 4 (by decide), fy2 4 (by decide), u3x (by decide), u3x (by decide), u3x (by decide), u3s]
  have h0 : RD dx b len 0 (dx 48 0) (dx 49 0) (dx 50 0) 0 0 := ⟨hr0, rfl, rfl, rfl, by rw [fx.2 13 (by decide), y13], by rw [fx.2 14 (by decide), y14]; rfl⟩
  obtain ⟨w1, w2⟩ := tk_word (j := 24) (by omega) hx (fun x hx => by
    have : x = 32 := hx.symm
    rw [this]
    decide) (len := len) (by omega) (by simp)
  rw [z0] at w2
  have ew := rd_word (n := n) (o := o) hl (j := 24) (by omega) hr0 w1 24 (by decide) (by decide)
  rw [if_pos rfl] at ew
  obtain ⟨d1, e1, f1, g1⟩ := em_starts1 (n := n) (o := o) (x := 1) hl hr0
  rw [w2] at g1
  have h1 := RD_KR h0 (KR_PF f1) g1
  obtain ⟨d2, e2, f2, g2⟩ := rd_lay (n := n) (o := o) hl h1 (k := 0) (lo := 1) (hi := 4) (by omega) (by omega) hx1 (blank_c _) (by omega) (by simp) hB1 hB4 (by omega)
  obtain ⟨d3, e3, f3, g3⟩ := rd_lay (n := n) (o := o) hl g2 (k := 1) (lo := 1) (hi := 16) (by omega) (by omega) hx2 (blank_c _) (by omega) (by simp) hR1 hR16 (by omega)
  obtain ⟨d4, e4, f4, g4⟩ := rd_lay (n := n) (o := o) hl g3 (k := 2) (lo := 4) (hi := 999) (by omega) hb hx3 (blank_c _) (by omega) (by simp) hb4 (by omega) (by omega)
  obtain ⟨d5, e5, f5, g5⟩ := rd_lay (n := n) (o := o) hl g4 (k := 3) (lo := 1) (hi := 99) (by omega) hi hx4 (semi_c L) (by omega) (by simp) hi1 (by omega) (by omega)
  obtain ⟨d6, e6, f6, g6⟩ := rd_semi (n := n) (o := o) hl g5 hx5 (by omega)
  have fin := kk d6 (KU_KT ku (KT_t (KT_KR (KR_PF f1)) (KT_t f2 (KT_t f3 (KT_t f4 (KT_t f5 (KT_KR f6))))))) ⟨_, _, _, g6, fun k hk => ?_, fun k hk => by rw [fx.1 49 (by decide), y49 k hk], fun k hk => by omega⟩
  · refine ER_bk ?_
    rw [bk_151_0, f0, i129, bi_ok, if_neg (by decide), show (130, 0, [ev_R 44 0, ev_I (0 : Int32), ev_I (1 : Int32)], ([] : List ev_V), 0, 0) = ((130, 0, [ev_R 44 0, ev_I 0, ev_I 1], [], 0, 0) : ev_F) from rfl, i130, bi_ok, if_pos rfl]
    simp only []
    rw [ey, bv_ok, ex, bv_ok, ew, bi_ok, e1, bi_ok, if_neg (by decide)]
    rw [show (EV (142, 0, [ev_R 44 0, ev_I 0, ev_I 1, ev_I 4], [], 0, 0) (n, lk, d1, o)) = some (.inl (some (ev_I 1)), (n, lk, d2, o)) from e2, bi_ok, if_neg (by decide)]
    rw [show (EV (142, 0, [ev_R 44 0, ev_I 1, ev_I 1, ev_I 16], [], 0, 0) (n, lk, d2, o)) = some (.inl (some (ev_I 1)), (n, lk, d3, o)) from e3, bi_ok, if_neg (by decide)]
    rw [show (EV (142, 0, [ev_R 44 0, ev_I 2, ev_I 4, ev_I 999], [], 0, 0) (n, lk, d3, o)) = some (.inl (some (ev_I 1)), (n, lk, d4, o)) from e4, bi_ok, if_neg (by decide)]
    rw [show (EV (142, 0, [ev_R 44 0, ev_I 3, ev_I 1, ev_I 99], [], 0, 0) (n, lk, d4, o)) = some (.inl (some (ev_I 1)), (n, lk, d5, o)) from e5, bi_ok, if_neg (by decide), e6, bi_ok, if_neg (by decide)]
    exact fin
  · refine u1_cg (N := 132) (u1_cg (u1_cg (u1_cg fun j hj => ?_))) k hk
    rw [fx.1 48 (by decide), y48 j hj]
end RD2
