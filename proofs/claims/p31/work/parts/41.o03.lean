/-! THE LAW AND THE PROGRAM, 3: what changes -/
theorem TC_u {t : Nat → Int32} {B R B' R' : Nat} (h : TC t B R) (h' : TC t B' R') : B' = B ∧ R' = R := by
  obtain ⟨⟨a1, a2, a3, a4, a5, a6⟩, -⟩ := h
  obtain ⟨⟨b1, b2, b3, b4, b5, b6⟩, -⟩ := h'
  exact ⟨(ni_eq (by omega) (by omega)).mp (b1.symm.trans a1), (ni_eq (by omega) (by omega)).mp (b2.symm.trans a2)⟩
theorem GS_u {d : Nat → Nat → Nat → Int32} {w : Nat → Int32} {B R C T τ B' R' C' T' τ' : Nat} (h : GS d 1 w B R C T τ) (h' : GS d 1 w B' R' C' T' τ') : C' = C ∧ τ' = τ := by
  obtain ⟨⟨K, h1⟩, h2⟩ := h
  obtain ⟨⟨K', h1'⟩, h2'⟩ := h'
  have := cs_C h1
  have := cs_C h1'
  have := h2.2.2.1.2
  have := h2'.2.2.1.2
  exact ⟨(ni_eq (by omega) (by omega)).mp ((cs_w9 h1').symm.trans (cs_w9 h1)), (ni_eq (by omega) (by omega)).mp (h2'.2.2.1.1.symm.trans h2.2.2.1.1)⟩
theorem GB_of {d : Nat → Nat → Nat → Int32} {B R C τ : Nat} (h : GI d) (hT : TC (d 45 0) B R) (hC : d 46 0 9 = Int32.ofNat C) (h40 : C ≤ 40) (hτ : d 46 0 8 = Int32.ofNat τ) (h3 : τ ≤ 3000) : ∃ T, GB d B R C T τ := by
  obtain ⟨B', R', C', T, τ', g⟩ := GI_GB h
  obtain ⟨h0, g1, g2, g3, g4, ⟨K, hs⟩, hI⟩ := id g
  obtain ⟨rfl, rfl⟩ := TC_u g1 hT
  have := cs_C hs
  have e1 : C = C' := (ni_eq (by omega) (by omega)).mp (hC.symm.trans (cs_w9 hs))
  have e2 : τ = τ' := (ni_eq (by omega) (by omega)).mp (hτ.symm.trans hI.2.2.1.1)
  subst e1 e2
  exact ⟨T, g⟩
/-- a call that changes: its answer and what is now then -/
def OPC (a b : ev_F) (lk : Nat → Nat → Nat → Bool) (d : Nat → Nat → Nat → Int32) (v : Int32) (w' : Nat → Int32) : Prop := ∀ n o, 384 ≤ n →
  ∃ d1 d2, CR d1 d2 ∧ GI d2 ∧ (d2 45 0 = d 45 0 ∧ d2 44 0 4 = d 44 0 4 ∧ d2 104 = d 104) ∧ (∀ j, j < 615 → d2 46 0 j = w' j) ∧ EV a (n, lk, d, o) = some (.inl (some (ev_I v)), (n, lk, d1, o)) ∧ EV b (n, lk, d1, o) = some (.inl (some (ev_I v)), (n, lk, d2, o))
theorem CR_KP {d2 d3 d4 : Nat → Nat → Nat → Int32} {c : Nat} (kp : KP (ev_u3 d2 44 0 0 0) d3 c) (m : ∀ r, r ≠ 46 → (r < 51 ∨ 57 < r) → d4 r = d3 r) : CR d2 d4 := fun r hr => by
  rw [m r (by omega) (by omega), kp.1 r (by omega) (by omega), u3n (by omega)]
section OL3
variable {n : Nat} {lk : Nat → Nat → Nat → Bool} {d : Nat → Nat → Nat → Int32} {o : ev_W} {B R C T τ S : Nat}
theorem ec_remB (hl : LK lk) (hG : GB d B R C T τ) : ∃ c, (c ≤ 10 ∧ d 44 0 25 = Int32.ofNat c) ∧
    ∀ n o, ∃ d1, EV (15, 0, [ev_R 39 0, ev_R 0 1], [], 0, 0) (n, lk, d, o) = some (.inl none, (n, lk, d1, o)) ∧ GS d1 1 (d 46 0) B R C T τ ∧ TW d1 (d 45 0) T ∧ SC d d1 ∧ (d1 44 = d 44 ∧ d1 45 = d 45 ∧ d1 46 = d 46 ∧ d1 24 = d 24 ∧ ∀ r, r < 24 → d1 r 1 = d r 1) ∧
    ∀ d2 d3 d4 w' C' τ', FT d1 d2 1 → GS d2 1 w' B R C' T τ' → τ' ≤ 2000 → KP (ev_u3 d2 44 0 0 0) d3 c → (∀ r, r ≠ 46 → (r < 51 ∨ 57 < r) → d4 r = d3 r) → (∀ j, j < 615 → d4 46 0 j = w' j) → SC d d4 ∧ GI d4 ∧ SC d d2 ∧ d4 44 0 0 = 0 := by
  obtain ⟨h, a1, a2, a3, a4, a5⟩ := hG
  obtain ⟨B', R', T', C', τ', c, ⟨g1, g2, g3, g4, hτ, hc10, hu⟩, hrem⟩ := ec_remG hl h
  obtain ⟨e1, e2⟩ := TC_u a1 g1
  obtain ⟨e3, e4⟩ := GS_u a5 g4
  have e5 : T' = T := (ni_eq (by omega) (by omega)).mp (g3.1.symm.trans a3.1)
  subst e1 e2 e3 e4 e5
  exact ⟨c, ⟨hc10, hu⟩, hrem⟩
theorem ol_set (hl : LK lk) (hG : GB d B R C T τ) {k v : Nat} (hk : k < 7) (hv : v < 1000) (z : ev_sa 0 k ≤ Int32.ofNat v ∧ Int32.ofNat v ≤ ev_sa 1 k) : OPC (110, 0, [ev_R 27 0, ev_I (Int32.ofNat k), ev_I (Int32.ofNat v)], [], 0, 0) (216, 0, [ev_R 44 0, ev_I (Int32.ofNat k), ev_I (Int32.ofNat v)], [], 0, 0) lk d (d 46 0 k) (ev_u1 (d 46 0) k (Int32.ofNat v)) := by
  obtain ⟨c, ⟨hc10, hu⟩, hrem⟩ := ec_remB hl hG
  obtain ⟨h, g1, g2, g3, hτ, g4⟩ := hG
  obtain ⟨⟨K, hs⟩, hI⟩ := id g4
  obtain ⟨⟨t0, t1, b1, b4, r1, r16⟩, -⟩ := id g1
  have hB := g2.1.trans t0
  have hR := g2.2.1.trans t1
  have h40 := cs_C hs
  have zx : 0 ≤ Int32.ofNat k ∧ Int32.ofNat k ≤ 6 := ⟨ni_lo (by omega), (ni_le (b := 6) (by omega) (by omega)).mpr (by omega)⟩
  have x0 : ¬ Int32.ofNat k < 0 := Int32.not_lt.mpr zx.1
  have x7 : Int32.ofNat k < 7 := (ni_lt (b := 7) (by omega) (by omega)).mpr (by omega)
  intro n o hn
  obtain ⟨d1, e1, s1, w1, sc1, ⟨q44, q45, q46, q24, qs⟩, fin⟩ := hrem n o
  have s2 := GS_set s1 (k := k) (v := v) (by omega) z.1 z.2 (by omega)
  obtain ⟨d3, e3, kp⟩ := em_keeps (n := n) (o := o) (d := ev_u3 (ev_u3 d1 1 1 k (Int32.ofNat v)) 44 0 0 0) hl (c := c) (by rw [u3x (by decide), u3n (by decide), q44]; exact hu) hc10
  have c46 : d3 46 = d 46 := by rw [kp.1 46 (by decide) (by decide), u3n (by decide), u3n (by decide), q46]
  obtain ⟨f1, f2, f3, f4⟩ := fin (ev_u3 d1 1 1 k (Int32.ofNat v)) d3 (ev_u3 d3 46 0 k (Int32.ofNat v)) _ C τ (FT_01 (by decide)) s2 hτ kp (fun r h1 h2 => u3n h1) (fun j hj => by rw [u3r, c46])
  refine ⟨ev_u3 d1 1 1 k (Int32.ofNat v), ev_u3 d3 46 0 k (Int32.ofNat v), CR_KP kp (fun r h1 h2 => u3n h1), f2, ⟨by rw [u3n (by decide), kp.1 45 (by decide) (by decide), u3n (by decide), u3n (by decide), q45], by rw [u3n (by decide), kp.2.1 4 (by decide), u3x (by decide), u3n (by decide), q44], f1.2⟩, fun j hj => by rw [u3r, c46], ?_, ?_⟩
  · refine EV_bk (k := 400) ?_
    rw [bk_110_0, if_neg x0, if_pos x7]
    simp only [ni_in (n := k) (N := 7) (by omega) (by omega), ni_c (n := k) (by omega), cond_true]
    rw [if_neg (Int32.not_lt.mpr z.1), if_pos z.2]
    simp only [hl 27 0 6 rfl (by decide) (by decide), hl 27 0 4 rfl (by decide) (by decide), cond_true]
    rw [e1]
    simp only [ev_bv, hl 27 0 4 rfl (by decide) (by decide), show lk 0 1 4 = true from hl 0 1 4 rfl (by decide) (by decide), cond_true]
    rw [qs 1 (by decide), cs_1 hs (by omega)]
  · refine EV_bk (k := 400) ?_
    rw [bk_216_0, em_noSetting, if_pos zx]
    simp only [ev_bi, ↓reduceIte]
    rw [em_lowOf (by omega)]
    simp only []
    rw [em_highOf (by omega)]
    simp only []
    rw [em_in z]
    simp (decide := true) only [↓reduceIte]
    rw [em_throws0 u3s]
    simp (decide := true) only [↓reduceIte]
    rw [e3]
    simp only [ev_bv, hl 44 0 2 rfl (by decide) (by decide), cond_true, Int32.zero_add, ni_in (n := k) (N := 615) (by omega) (by omega), ni_c (n := k) (by omega)]
    rw [c46]
theorem ol_setTrading (hl : LK lk) (hG : GB d B R C T τ) {x : Int32} (hx : x = 0 ∨ x = 1) : OPC (111, 0, [ev_R 27 0, ev_I x], [], 0, 0) (217, 0, [ev_R 44 0, ev_I x], [], 0, 0) lk d (d 46 0 7) (ev_u1 (d 46 0) 7 x) := by
  obtain ⟨c, ⟨hc10, hu⟩, hrem⟩ := ec_remB hl hG
  obtain ⟨h, g1, g2, g3, hτ, g4⟩ := hG
  obtain ⟨⟨K, hs⟩, hI⟩ := id g4
  obtain ⟨⟨t0, t1, b1, b4, r1, r16⟩, -⟩ := id g1
  have hB := g2.1.trans t0
  have hR := g2.2.1.trans t1
  have h40 := cs_C hs
  have w7 := hI.2.2.2.1.2.2.2.1
  intro n o hn
  obtain ⟨d1, e1, s1, w1, sc1, ⟨q44, q45, q46, q24, qs⟩, fin⟩ := hrem n o
  have s2 := GS_trading s1 hx
  obtain ⟨d3, e3, kp⟩ := em_keeps (n := n) (o := o) (d := ev_u3 (ev_u3 d1 0 1 1 x) 44 0 0 0) hl (c := c) (by rw [u3x (by decide), u3n (by decide), q44]; exact hu) hc10
  have c46 : d3 46 = d 46 := by rw [kp.1 46 (by decide) (by decide), u3n (by decide), u3n (by decide), q46]
  obtain ⟨f1, f2, f3, f4⟩ := fin (ev_u3 d1 0 1 1 x) d3 (ev_u3 d3 46 0 7 x) _ C τ (FT_01 (by decide)) s2 hτ kp (fun r h1 h2 => u3n h1) (fun j hj => by rw [u3r, c46])
  refine ⟨ev_u3 d1 0 1 1 x, ev_u3 d3 46 0 7 x, CR_KP kp (fun r h1 h2 => u3n h1), f2, ⟨by rw [u3n (by decide), kp.1 45 (by decide) (by decide), u3n (by decide), u3n (by decide), q45], by rw [u3n (by decide), kp.2.1 4 (by decide), u3x (by decide), u3n (by decide), q44], f1.2⟩, fun j hj => by rw [u3r, c46], ?_, ?_⟩
  · have okx : ev_ok 2 x = true := by
      rcases hx with z | z <;> rw [z] <;> rfl
    have okw : ev_ok 2 (d 46 0 7) = true := by
      rcases w7 with z | z <;> rw [z] <;> rfl
    refine EV_bk (k := 400) ?_
    rw [bk_111_0, hl 27 0 6 rfl (by decide) (by decide), cond_true, hl 27 0 4 rfl (by decide) (by decide), cond_true, e1]
    simp only [ev_bv, hl 27 0 4 rfl (by decide) (by decide), cond_true, okx]
    rw [qs 0 (by decide), cs_tr hs, okw, cond_true]
  · refine EV_bk (k := 400) ?_
    rw [bk_217_0, e3]
    simp only [ev_bv, hl 44 0 2 rfl (by decide) (by decide), cond_true]
    rw [c46]
    rcases w7 with z | z
    · rw [if_neg (by rw [z]; decide)]
      rcases hx with y | y
      · rw [if_pos y, z, y]
      · rw [if_neg (by rw [y]; decide), z, y]
    · rw [if_pos z]
      rcases hx with y | y
      · rw [if_pos y, z, y]
      · rw [if_neg (by rw [y]; decide), z, y]
theorem ol_pass (hl : LK lk) (hG : GB d B R C T τ) (hS : d 46 0 0 = Int32.ofNat S) (hS4 : S ≤ 4) {k : Nat} (hk1 : 1 ≤ k) (hk : k ≤ 200) (zt : τ + k ≤ 2000) : OPC (107, 0, [ev_R 27 0, ev_I (Int32.ofNat k)], [], 0, 0) (213, 0, [ev_R 44 0, ev_I (Int32.ofNat k)], [], 0, 0) lk d (ms_ticks (d 45 0) (d 46 0) C R B S k 14 - d 46 0 14) (ms_ticks (d 45 0) (d 46 0) C R B S k) := by
  obtain ⟨c, ⟨hc10, hu⟩, hrem⟩ := ec_remB hl hG
  obtain ⟨h, g1, g2, g3, hτ, g4⟩ := hG
  obtain ⟨⟨K, hs⟩, hI⟩ := id g4
  obtain ⟨⟨t0, t1, b1, b4, r1, r16⟩, -⟩ := id g1
  have hB := g2.1.trans t0
  have hR := g2.2.1.trans t1
  have h40 := cs_C hs
  have z : 1 ≤ Int32.ofNat k ∧ Int32.ofNat k ≤ 200 := ⟨(ni_le (a := 1) (by omega) (by omega)).mpr hk1, (ni_le (b := 200) (by omega) (by omega)).mpr hk⟩
  have x1 : ¬ Int32.ofNat k < 1 := Int32.not_lt.mpr z.1
  have tk : d 46 0 8 + Int32.ofNat k = Int32.ofNat (τ + k) := by rw [hI.2.2.1.1, ni_a]
  have zt' : Int32.ofNat (τ + k) ≤ 2000 := (ni_le (b := 2000) (by omega) (by omega)).mpr zt
  intro n o hn
  obtain ⟨d1, e1, s1, w1, sc1, ⟨q44, q45, q46, q24, qs⟩, fin⟩ := hrem n o
  obtain ⟨d2, e2, ft, s2, -⟩ := ec_run (n := n) (o := o) hl (i := 1) (by decide) (k := k) s1 w1 g1 hS hS4 (by omega)
  have p44 : d2 44 = d1 44 := funext fun j => ft 44 j (.inl (by omega))
  have p45 : d2 45 = d1 45 := funext fun j => ft 45 j (.inl (by omega))
  have p46 : d2 46 = d1 46 := funext fun j => ft 46 j (.inl (by omega))
  obtain ⟨d3, e3, kp⟩ := em_keeps (n := n) (o := o) (d := ev_u3 d2 44 0 0 0) hl (c := c) (by rw [u3x (by decide), p44, q44]; exact hu) hc10
  have c46 : d3 46 = d 46 := by rw [kp.1 46 (by decide) (by decide), u3n (by decide), p46, q46]
  have c45 : d3 45 = d 45 := by rw [kp.1 45 (by decide) (by decide), u3n (by decide), p45, q45]
  obtain ⟨d4, e4, m4, sm4, -⟩ := em_lossesIn (n := n) (o := o) hl (d := d3) (k := k) (ms_OK_c (GS_OK g1 g4 hS hS4) (by rw [c45]) (by rw [c46])) (by omega)
  rw [c45, c46] at m4
  rw [m4, c46] at e4
  obtain ⟨f1, f2, f3, f4⟩ := fin d2 d3 d4 _ C (τ + k) ft s2 zt kp (fun r h1 h2 => sm4 r h1 (by omega) (by omega) (by omega) (by omega) (by omega) (by omega)) (fun j hj => by rw [m4])
  refine ⟨d2, d4, CR_KP kp (fun r h1 h2 => sm4 r h1 (by omega) (by omega) (by omega) (by omega) (by omega) (by omega)), f2, ⟨by rw [sm4 45 (by decide) (by decide) (by decide) (by decide) (by decide) (by decide) (by decide), c45], by rw [sm4 44 (by decide) (by decide) (by decide) (by decide) (by decide) (by decide) (by decide), kp.2.1 4 (by decide), u3x (by decide), p44, q44], f1.2⟩, fun j hj => by rw [m4], ?_, ?_⟩
  · refine EV_bk (k := 400) ?_
    rw [bk_107_0, if_neg x1, if_pos (show Int32.ofNat k ≤ 200 from z.2), hl 27 0 4 rfl (by decide) (by decide), cond_true, cs_tm hs, tk, if_pos zt', hl 27 0 6 rfl (by decide) (by decide), cond_true, cond_true, e1]
    simp only [ev_bv, hl 27 0 2 rfl (by decide) (by decide), hl 27 0 4 rfl (by decide) (by decide), cond_true]
    rw [e2]
    rfl
  · refine EV_bk (k := 400) ?_
    rw [bk_213_0, em_in z]
    simp (decide := true) only [ev_bi, ↓reduceIte]
    rw [em_throws0 u3s]
    simp (decide := true) only [↓reduceIte, hl 44 0 2 rfl (by decide) (by decide), cond_true]
    rw [if_pos (show ev_u3 d2 44 0 0 0 46 0 8 + Int32.ofNat k ≤ 2000 by rw [u3n (by decide), p46, q46, tk]; exact zt'), em_throws0 u3s]
    simp (decide := true) only [↓reduceIte]
    rw [e3]
    simp only [ev_bv]
    rw [e4]
theorem ol_trade (hl : LK lk) (hG : GB d B R C T τ) {b k : Nat} (hb : b < B) (hk : k < B) (e : b ≠ k) (zc : ms_can (d 46 0) k) (zd : -(d 46 0 2) < d 46 0 (19 + 9 * b + 0)) : OPC (109, 0, [ev_R 27 0, ev_I (Int32.ofNat b), ev_I (Int32.ofNat k)], [], 0, 0) (215, 0, [ev_R 44 0, ev_I (Int32.ofNat b), ev_I (Int32.ofNat k)], [], 0, 0) lk d (ms_moves (d 46 0) b k (19 + 9 * k + 0)) (ms_moves (d 46 0) b k) := by
  obtain ⟨c, ⟨hc10, hu⟩, hrem⟩ := ec_remB hl hG
  obtain ⟨h, g1, g2, g3, hτ, g4⟩ := hG
  obtain ⟨⟨K, hs⟩, hI⟩ := id g4
  obtain ⟨⟨t0, t1, b1, b4, r1, r16⟩, -⟩ := id g1
  have hB := g2.1.trans t0
  have hR := g2.2.1.trans t1
  have h40 := cs_C hs
  have zx : 0 ≤ Int32.ofNat b ∧ Int32.ofNat b < Int32.ofNat B := ⟨ni_lo (by omega), (ni_lt (by omega) (by omega)).mpr hb⟩
  have zy : 0 ≤ Int32.ofNat k ∧ Int32.ofNat k < Int32.ofNat B := ⟨ni_lo (by omega), (ni_lt (by omega) (by omega)).mpr hk⟩
  have m194 : ∀ n o (d' : Nat → Nat → Nat → Int32), d' 45 0 0 = Int32.ofNat B → EV (194, 0, [ev_R 44 0, ev_I (Int32.ofNat b)], [], 0, 0) (n, lk, d', o) = some (.inl (some (ev_I 0)), (n, lk, ev_u3 d' 44 0 0 0, o)) := fun n o d' h' => by
    rw [em_noBank hl h' b4, if_pos zx]
  have m193 : ∀ n o (d' : Nat → Nat → Nat → Int32), d' 45 0 0 = Int32.ofNat B → EV (193, 0, [ev_R 44 0, ev_I (Int32.ofNat k), ev_I (ev_u3 d' 44 0 0 0 45 0 0)], [], 0, 0) (n, lk, ev_u3 d' 44 0 0 0, o) = some (.inl (some (ev_I 0)), (n, lk, ev_u3 d' 44 0 0 0, o)) := fun n o d' h' => by
    rw [u3n (r' := 45) (by decide), h', em_no (by omega) u3s, if_pos zy]
  have c115b : ∀ n o, 384 ≤ n → EV (115, 0, [ev_R 27 0, ev_I (Int32.ofNat b)], [], 0, 0) (n, lk, d, o) = some (.inl none, (n, lk, d, o)) := fun n o hn => by rw [ec_reqBank hl hn hB, if_pos zx]
  have c115k : ∀ n o, 384 ≤ n → EV (115, 0, [ev_R 27 0, ev_I (Int32.ofNat k)], [], 0, 0) (n, lk, d, o) = some (.inl none, (n, lk, d, o)) := fun n o hn => by rw [ec_reqBank hl hn hB, if_pos zy]
  have e' : ¬ Int32.ofNat b = Int32.ofNat k := fun v => e ((ni_eq (by omega) (by omega)).mp v)
  have hcan : (¬ d 1 1 3 ≤ d 5 1 k ∧ d 4 1 k < d 1 1 1) ↔ ms_can (d 46 0) k := by rw [ec_hot_ms hs (by omega), cs_4 hs (by omega), cs_1 hs (k := 1) (by decide)]
  have cT : ∀ n o, EV (65, 0, [ev_R 0 1, ev_I (Int32.ofNat k)], [], 0, 0) (n, lk, d, o) = some (.inl (some (ev_I 1)), (n, lk, d, o)) := fun n o => by
    rw [ec_canTake hl (i := 1) (by decide) (by omega), if_pos (hcan.mpr zc)]
  have mT : ∀ n o (d' : Nat → Nat → Nat → Int32), d' 46 = d 46 → EV (172, 0, [ev_R 44 0, ev_I (Int32.ofNat k)], [], 0, 0) (n, lk, d', o) = some (.inl (some (ev_I 1)), (n, lk, d', o)) := fun n o d' h' => by
    rw [em_canTake hl (by omega), h', if_pos zc]
  intro n o hn
  obtain ⟨d1, e1, s1, w1, sc1, ⟨q44, q45, q46, q24, qs⟩, fin⟩ := hrem n o
  obtain ⟨⟨K1, h1⟩, hI1⟩ := s1
  obtain ⟨d2, e2, fr, s2⟩ := ec_move (n := n) (o := o) hl (i := 1) (by decide) (b := b) (k := k) h1 (by omega) (by omega)
  have p44 : d2 44 = d1 44 := funext fun j => fr 44 j (.inl (by omega))
  have p45 : d2 45 = d1 45 := funext fun j => fr 45 j (.inl (by omega))
  have p46 : d2 46 = d1 46 := funext fun j => fr 46 j (.inl (by omega))
  have sg : GS d2 1 (ms_moves (d 46 0) b k) B R C T τ := ⟨⟨K1, s2⟩, SI_moves hI (by omega) (by omega) zd zc.2⟩
  obtain ⟨d3, e3, kp⟩ := em_keeps (n := n) (o := o) (d := ev_u3 d2 44 0 0 0) hl (c := c) (by rw [u3x (by decide), p44, q44]; exact hu) hc10
  have c46 : d3 46 = d 46 := by rw [kp.1 46 (by decide) (by decide), u3n (by decide), p46, q46]
  obtain ⟨f1, f2, f3, f4⟩ := fin d2 d3 (ev_w3 d3 46 0 (ms_moves (d 46 0) b k)) _ C τ (FR_FT fr) sg hτ kp (fun r h1 h2 => w3n h1) (fun j hj => by rw [w3s])
  refine ⟨d2, ev_w3 d3 46 0 (ms_moves (d 46 0) b k), CR_KP kp (fun r h1 h2 => w3n h1), f2, ⟨by rw [w3n (by decide), kp.1 45 (by decide) (by decide), u3n (by decide), p45, q45], by rw [w3n (by decide), kp.2.1 4 (by decide), u3x (by decide), p44, q44], f1.2⟩, fun j hj => by rw [w3s], ?_, ?_⟩
  · refine EV_bk (k := 400) ?_
    rw [bk_109_0, c115b n o hn]
    simp only [ev_bv]
    rw [c115k n o hn]
    simp only []
    rw [if_neg e', hl 27 0 4 rfl (by decide) (by decide), cond_true, cT n o]
    simp (decide := true) only [ev_bi, ↓reduceIte, hl 27 0 4 rfl (by decide) (by decide), show lk 0 1 6 = true from hl 0 1 6 rfl (by decide) (by decide), show lk 3 1 0 = true from hl 3 1 0 rfl (by decide) (by decide), show lk 0 1 4 = true from hl 0 1 4 rfl (by decide) (by decide), cond_true, ni_in (n := b) (N := 4) (by omega) (by omega), ni_c (n := b) (by omega), ni_in (n := k) (N := 4) (by omega) (by omega), ni_c (n := k) (by omega)]
    rw [cs_4 hs (by omega), cs_1 hs (k := 2) (by decide), if_neg (Int32.not_le.mpr zd)]
    simp only [hl 27 0 6 rfl (by decide) (by decide), cond_true]
    rw [e1]
    simp only [hl 27 0 4 rfl (by decide) (by decide), cond_true]
    rw [e2]
    simp only [hl 27 0 4 rfl (by decide) (by decide), cond_true]
    rw [cs_4 s2 (by omega), show lk 0 1 6 = true from hl 0 1 6 rfl (by decide) (by decide), show lk 3 1 0 = true from hl 3 1 0 rfl (by decide) (by decide), cond_true, cond_true]
  · refine EV_bk (k := 400) ?_
    rw [bk_215_0, m194 n _ d2 (by rw [p45, q45]; exact t0)]
    simp only [ev_bi, ↓reduceIte, hl 44 0 1 rfl (by decide) (by decide), cond_true]
    rw [m193 n _ d2 (by rw [p45, q45]; exact t0)]
    simp only [↓reduceIte]
    rw [if_neg e', em_throws0 u3s]
    simp only [↓reduceIte]
    rw [mT n _ _ (by rw [u3n (by decide), p46, q46])]
    simp (decide := true) only [↓reduceIte]
    rw [em_of hl (w := 0) (x := 0) rfl (by omega)]
    simp only [hl 44 0 2 rfl (by decide) (by decide), cond_true]
    rw [if_neg (show ¬ ev_u3 d2 44 0 0 0 46 0 (19 + 9 * b + 0) ≤ -(ev_u3 d2 44 0 0 0 46 0 2) by rw [u3n (by decide), p46, q46]; exact Int32.not_le.mpr zd), em_throws0 u3s]
    simp only [↓reduceIte]
    rw [e3]
    simp only [ev_bv]
    rw [em_moves hl (by omega) (by omega), c46]
    simp only []
    rw [em_of hl (w := 0) (x := 0) rfl (by omega), w3s]
theorem ol_ask (hl : LK lk) (hG : GB d B R C T τ) {b r : Nat} (hb : b < B) (hr : r < R) (zc : C < 40) : OPC (108, 0, [ev_R 27 0, ev_I (Int32.ofNat b), ev_I (Int32.ofNat r)], [], 0, 0) (214, 0, [ev_R 44 0, ev_I (Int32.ofNat b), ev_I (Int32.ofNat r)], [], 0, 0) lk d (Int32.ofNat C) (ms_come (ms_addq (d 46 0) C (Int32.ofNat b) (Int32.ofNat r) (d 46 0 8)) C) := by
  obtain ⟨c, ⟨hc10, hu⟩, hrem⟩ := ec_remB hl hG
  obtain ⟨h, g1, g2, g3, hτ, g4⟩ := hG
  obtain ⟨⟨K, hs⟩, hI⟩ := id g4
  obtain ⟨⟨t0, t1, b1, b4, r1, r16⟩, -⟩ := id g1
  have hB := g2.1.trans t0
  have hR := g2.2.1.trans t1
  have h40 := cs_C hs
  have zb : (0 ≤ Int32.ofNat b ∧ Int32.ofNat b < Int32.ofNat B) ∧ (0 ≤ Int32.ofNat r ∧ Int32.ofNat r < Int32.ofNat R) := ⟨⟨ni_lo (by omega), (ni_lt (by omega) (by omega)).mpr hb⟩, ⟨ni_lo (by omega), (ni_lt (by omega) (by omega)).mpr hr⟩⟩
  intro n o hn
  obtain ⟨d1, e1, s1, w1, sc1, ⟨q44, q45, q46, q24, qs⟩, fin⟩ := hrem n o
  obtain ⟨⟨K1, h1⟩, hI1⟩ := s1
  have ha := CS_add (b := Int32.ofNat b) (r := Int32.ofNat r) (tm := d 46 0 8) h1 zc
  have e2 := ec_add (n := n) (o := o) (b := Int32.ofNat b) (r := Int32.ofNat r) (tm := d 46 0 8) hl (i := 1) (by decide) h1 zc
  have n3 := (ms_addq_q (w := d 46 0) (C := C) (b := Int32.ofNat b) (r := Int32.ofNat r) (tm := d 46 0 8)).2.2.2.1
  have e3 := ec_come (n := n) (o := o) hl (i := 1) (by decide) ha (q := C) (by omega)
  rw [if_pos n3] at e3
  have s3 := CS_come ha (q := C) (by omega) n3
  have fr : FR d1 (mc_come (mc_addq d1 1 C (Int32.ofNat b) (Int32.ofNat r) (d 46 0 8)) 1 C K1) 1 := FR_t FR_add FR_come
  generalize hd2 : mc_come (mc_addq d1 1 C (Int32.ofNat b) (Int32.ofNat r) (d 46 0 8)) 1 C K1 = d2 at *
  have p44 : d2 44 = d1 44 := funext fun j => fr 44 j (.inl (by omega))
  have p45 : d2 45 = d1 45 := funext fun j => fr 45 j (.inl (by omega))
  have p46 : d2 46 = d1 46 := funext fun j => fr 46 j (.inl (by omega))
  have sg : GS d2 1 (ms_come (ms_addq (d 46 0) C (Int32.ofNat b) (Int32.ofNat r) (d 46 0 8)) C) B R (C + 1) T τ := ⟨⟨_, s3⟩, SI_ask hI zc hb hr b4⟩
  obtain ⟨d3, e4, kp⟩ := em_keeps (n := n) (o := o) (d := ev_u3 d2 44 0 0 0) hl (c := c) (by rw [u3x (by decide), p44, q44]; exact hu) hc10
  have c46 : d3 46 = d 46 := by rw [kp.1 46 (by decide) (by decide), u3n (by decide), p46, q46]
  obtain ⟨f1, f2, f3, f4⟩ := fin d2 d3 (ev_w3 d3 46 0 (ms_come (ms_addq (d 46 0) C (Int32.ofNat b) (Int32.ofNat r) (d 46 0 8)) C)) _ (C + 1) τ (FR_FT fr) sg hτ kp (fun r h1 h2 => w3n h1) (fun j hj => by rw [w3s])
  refine ⟨d2, _, CR_KP kp (fun r h1 h2 => w3n h1), f2, ⟨by rw [w3n (by decide), kp.1 45 (by decide) (by decide), u3n (by decide), p45, q45], by rw [w3n (by decide), kp.2.1 4 (by decide), u3x (by decide), p44, q44], f1.2⟩, fun j hj => by rw [w3s], ?_, ?_⟩
  · refine EV_bk (k := 400) ?_
    rw [bk_108_0, ec_reqRow hl hn hB hR, if_pos zb]
    simp only [ev_bv, hl 27 0 4 rfl (by decide) (by decide), hl 27 0 6 rfl (by decide) (by decide), show lk 0 1 8 = true from hl 0 1 8 rfl (by decide) (by decide), cond_true]
    rw [if_pos (show d 17 1 0 < 40 by rw [cs_ct hs, cs_w9 hs]; exact (ni_lt (b := 40) (by omega) (by omega)).mpr zc), e1]
    simp only [hl 27 0 4 rfl (by decide) (by decide), show lk 0 1 8 = true from hl 0 1 8 rfl (by decide) (by decide), cond_true]
    rw [cs_tm h1, e2]
    simp only [ev_bi, hl 27 0 4 rfl (by decide) (by decide), show lk 0 1 8 = true from hl 0 1 8 rfl (by decide) (by decide), cond_true]
    rw [e3]
  · refine EV_bk (k := 400) ?_
    rw [bk_214_0, em_noRow hl (B := B) (R := R) (by rw [p45, q45, t0]) b4 (by rw [p45, q45, t1]) r16, if_pos zb]
    simp only [ev_bi, ↓reduceIte, hl 44 0 2 rfl (by decide) (by decide), cond_true]
    rw [if_neg (show ¬ ev_u3 d2 44 0 0 0 46 0 9 = 40 by
      rw [u3n (by decide), p46, q46, cs_w9 hs]
      intro v
      have := (ni_eq (b := 40) (by omega) (by omega)).mp v
      omega), em_throws0 u3s]
    simp only [↓reduceIte]
    rw [e4]
    simp only [ev_bv, hl 44 0 2 rfl (by decide) (by decide), cond_true]
    rw [em_requests hl (C := C) (by rw [c46]; exact cs_w9 hs) zc, c46]
    simp only []
    rw [em_comes hl (by omega), w3s, w3w]
end OL3
