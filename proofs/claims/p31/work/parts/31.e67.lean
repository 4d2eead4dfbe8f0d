/-! THE PROGRAM AGAINST THE REFERENCE, 53: numbers and semicolons -/
def tk_n (b : Nat → Int32) (len p : Nat) : Int32 := tk_v b (tk_s b len p) (tk_e b len p - tk_s b len p)
def NG (b : Nat → Int32) (len p : Nat) (lo hi : Int32) : Prop := tk_k b len p = 2 ∧ lo ≤ tk_n b len p ∧ tk_n b len p ≤ hi
def NE (b : Nat → Int32) (len p : Nat) : Int32 := if tk_k b len p = 2 then 3 else 1
/-- the program has read the text up to p -/
def CT (d : Nat → Nat → Nat → Int32) (b : Nat → Int32) (len p : Nat) : Prop := p ≤ len ∧ len ≤ 600 ∧ d 29 0 2 = Int32.ofNat len ∧ (∀ x, x < len → d 30 0 x = b x) ∧ d 29 0 5 = Int32.ofNat p
/-- the reference has read the text up to p, and holds the token there -/
def RH (d : Nat → Nat → Nat → Int32) (b : Nat → Int32) (len p : Nat) : Prop := p ≤ len ∧ TB d b len ∧ RT d b len p ∧ d 44 0 10 = 0 ∧ d 44 0 11 = -1
def KC (d d' : Nat → Nat → Nat → Int32) : Prop := (∀ r, r ≠ 28 → r ≠ 29 → d' r = d r) ∧ (∀ k, k < 3 → d' 29 0 k = d 29 0 k)
def KR (d d' : Nat → Nat → Nat → Int32) : Prop := (∀ r, r ≠ 44 → d' r = d r) ∧ (∀ k, k < 6 ∨ 12 < k → d' 44 0 k = d 44 0 k)
theorem KC_t {d d' d'' : Nat → Nat → Nat → Int32} (h : KC d d') (h' : KC d' d'') : KC d d'' := ⟨fun r x y => (h'.1 r x y).trans (h.1 r x y), fun k x => (h'.2 k x).trans (h.2 k x)⟩
theorem KR_t {d d' d'' : Nat → Nat → Nat → Int32} (h : KR d d') (h' : KR d' d'') : KR d d'' := ⟨fun r x => (h'.1 r x).trans (h.1 r x), fun k x => (h'.2 k x).trans (h.2 k x)⟩
theorem KC_PF {d d' : Nat → Nat → Nat → Int32} (h : PF 29 3 5 d d') : KC d d' := ⟨fun r _ y => h.1 r y, fun k hk => h.2 k (.inl hk)⟩
theorem KR_PF {d d' : Nat → Nat → Nat → Int32} (h : PF 44 6 9 d d') : KR d d' := ⟨fun r y => h.1 r y, fun k hk => h.2 k (by omega)⟩
theorem KC_28 {d : Nat → Nat → Nat → Int32} {k : Nat} {v : Int32} : KC d (ev_u3 d 28 0 k v) := ⟨fun r x _ => u3n x, fun k' _ => by rw [u3n (by decide)]⟩
theorem KR_u {d : Nat → Nat → Nat → Int32} {k : Nat} {v : Int32} (h1 : 6 ≤ k) (h2 : k ≤ 12) : KR d (ev_u3 d 44 0 k v) := ⟨fun r x => u3n x, fun k' hk' => u3x (by omega)⟩
theorem TB_KR {d d' : Nat → Nat → Nat → Int32} {b : Nat → Int32} {len : Nat} (h : TB d b len) (hf : KR d d') : TB d' b len := by
  obtain ⟨h1, h2, h3⟩ := h
  exact ⟨h1, by rw [hf.2 5 (by decide), h2], fun x hx => by rw [hf.1 47 (by decide)]; exact h3 x hx⟩
theorem CT_KC {d d' : Nat → Nat → Nat → Int32} {b : Nat → Int32} {len p p' : Nat} (h : CT d b len p) (hf : KC d d') (hp : p' ≤ len) (h5 : d' 29 0 5 = Int32.ofNat p') : CT d' b len p' := by
  obtain ⟨-, h1, h2, h3, -⟩ := h
  exact ⟨hp, h1, by rw [hf.2 2 (by decide), h2], fun x hx => by rw [hf.1 30 (by decide) (by decide)]; exact h3 x hx, h5⟩
section EC42
variable {n : Nat} {lk : Nat → Nat → Nat → Bool} {d : Nat → Nat → Nat → Int32} {o : ev_W}
theorem ec_value (hl : LK lk) {b : Nat → Int32} {len s e : Nat} (hse : s ≤ e) (he : e ≤ len) (hlen : len ≤ 600) (h4 : d 29 0 4 = Int32.ofNat s) (h5 : d 29 0 5 = Int32.ofNat e) (hb : ∀ x, x < len → d 30 0 x = b x) :
    EV (22, 0, [ev_R 29 0], [], 0, 0) (n, lk, d, o) = some (.inl (some (ev_I (tk_v b s (e - s)))), (n, lk, d, o)) := by
  have loop : ∀ j k, k + j = e → s ≤ k → EV (22, 7, [ev_R 29 0, ev_I (tk_v b s (k - s)), ev_I (Int32.ofNat k)], [], 0, 0) (n, lk, d, o) = some (.inl (some (ev_I (tk_v b s (e - s)))), (n, lk, d, o)) := by
    intro j
    induction j with
    | zero =>
      intro k hk hs
      refine EV_bk (k := 400) ?_
      rw [bk_22_7, h5, if_neg (fun z => by have := (ni_lt (by omega) (by omega)).mp z; omega), show k = e by omega]
    | succ j ih =>
      intro k hk hs
      have hlt : Int32.ofNat k < Int32.ofNat e := (ni_lt (by omega) (by omega)).mpr (by omega)
      have hv : (10 : Int32) * tk_v b s (k - s) + (b k - 48) = tk_v b s (k + 1 - s) := by
        rw [show k + 1 - s = (k - s) + 1 by omega]
        show _ = (10 : Int32) * tk_v b s (k - s) + (b (s + (k - s)) - 48)
        rw [show s + (k - s) = k by omega]
      refine EV_bk (k := 400) ?_
      rw [bk_22_7, h5, if_pos hlt, hl 29 0 0 rfl (by decide) (by decide), cond_true]
      simp only [ni_in (n := k) (N := 600) (by omega) (by omega), ni_c (n := k) (by omega), cond_true, hb k (by omega), hv, ni_1]
      exact ih (k + 1) (by omega) (by omega)
  have := loop (e - s) s (by omega) (Nat.le_refl _)
  rw [Nat.sub_self] at this
  refine EV_bk (k := 400) ?_
  rw [bk_22_0, h4]
  exact this
theorem ec_tok (hl : LK lk) {b : Nat → Int32} {len p : Nat} (h : CT d b len p) : ∃ d', EV (20, 0, [ev_R 29 0], [], 0, 0) (n, lk, d, o) = some (.inl none, (n, lk, d', o)) ∧ PF 29 3 5 d d' ∧ CT d' b len (tk_e b len p) ∧ d' 29 0 3 = tk_k b len p ∧ d' 29 0 4 = Int32.ofNat (tk_s b len p) := by
  obtain ⟨d', e, f, f3, f4, f5⟩ := ec_scan (n := n) (o := o) hl h.1 h.2.1 h.2.2.2.2 h.2.2.1 h.2.2.2.1
  exact ⟨d', e, f, CT_KC h (KC_PF f) (tk_ele h.1).2.1 f5, f3, f4⟩
theorem ec_fail (hl : LK lk) {x : Int32} : EV (33, 0, [ev_R 28 0, ev_I x], [], 0, 0) (n, lk, d, o) = some (.inl (some (ev_I 0)), (n, lk, ev_u3 (ev_u3 d 28 0 5 x) 28 0 6 (d 29 0 4), o)) := by
  refine EV_bk (k := 400) ?_
  rw [bk_33_0, hl 28 0 0 rfl (by decide) (by decide), cond_true]
theorem em_fails {x : Int32} (h : d 44 0 10 = 0) : EV (139, 0, [ev_R 44 0, ev_I x], [], 0, 0) (n, lk, d, o) = some (.inl (some (ev_I 0)), (n, lk, ev_u3 (ev_u3 d 44 0 10 x) 44 0 11 (d 44 0 6), o)) := by
  refine EV_bk (k := 400) ?_
  rw [bk_139_0, if_pos h, u3x (by decide)]
theorem ec_num1 (hl : LK lk) {b : Nat → Int32} {len p : Nat} {lo hi : Int32} (h : CT d b len p) (g : NG b len p lo hi) :
    ∃ d', EV (40, 0, [ev_R 28 0, ev_I lo, ev_I hi], [], 0, 0) (n, lk, d, o) = some (.inl (some (ev_I 1)), (n, lk, d', o)) ∧ KC d d' ∧ CT d' b len (tk_e b len p) ∧ d' 28 0 4 = tk_n b len p ∧ d' 29 0 4 = Int32.ofNat (tk_s b len p) := by
  obtain ⟨g1, g2, g3⟩ := g
  obtain ⟨d1, e, f, c, f3, f4⟩ := ec_tok (n := n) (o := o) hl h
  obtain ⟨a1, a2, -⟩ := tk_ele (b := b) h.1
  have kc : KC d1 (ev_u3 d1 28 0 4 (tk_n b len p)) := KC_28
  refine ⟨ev_u3 d1 28 0 4 (tk_n b len p), EV_bk (k := 400) ?_, KC_t (KC_PF f) kc, CT_KC c kc a2 (by rw [u3n (by decide)]; exact c.2.2.2.2), u3s, by rw [u3n (by decide), f4]⟩
  rw [bk_40_0, hl 28 0 0 rfl (by decide) (by decide), cond_true, e]
  simp only [ev_bv, hl 28 0 0 rfl (by decide) (by decide), cond_true]
  rw [f3, if_pos g1, show EV (22, 0, [ev_R 29 0], [], 0, 0) (n, lk, d1, o) = some (.inl (some (ev_I (tk_n b len p))), (n, lk, d1, o)) from ec_value hl a1 a2 h.2.1 f4 c.2.2.2.2 c.2.2.2.1]
  simp only [ev_bi]
  rw [if_neg (show ¬ ev_u3 d1 28 0 4 (tk_n b len p) 28 0 4 < lo by rw [u3s]; exact Int32.not_lt.mpr g2), if_pos (show ev_u3 d1 28 0 4 (tk_n b len p) 28 0 4 ≤ hi by rw [u3s]; exact g3)]
theorem ec_num0 (hl : LK lk) {b : Nat → Int32} {len p : Nat} {lo hi : Int32} (h : CT d b len p) (g : ¬ NG b len p lo hi) :
    ∃ d', EV (40, 0, [ev_R 28 0, ev_I lo, ev_I hi], [], 0, 0) (n, lk, d, o) = some (.inl (some (ev_I 0)), (n, lk, d', o)) ∧ KC d d' ∧ d' 28 0 5 = NE b len p ∧ d' 28 0 6 = Int32.ofNat (tk_s b len p) := by
  obtain ⟨d1, e, f, c, f3, f4⟩ := ec_tok (n := n) (o := o) hl h
  obtain ⟨a1, a2, -⟩ := tk_ele (b := b) h.1
  unfold NE
  by_cases g1 : tk_k b len p = 2
  · rw [if_pos g1]
    have ev : EV (22, 0, [ev_R 29 0], [], 0, 0) (n, lk, d1, o) = some (.inl (some (ev_I (tk_n b len p))), (n, lk, d1, o)) := ec_value (n := n) (o := o) hl a1 a2 h.2.1 f4 c.2.2.2.2 c.2.2.2.1
    refine ⟨ev_u3 (ev_u3 (ev_u3 d1 28 0 4 (tk_n b len p)) 28 0 5 3) 28 0 6 (d1 29 0 4), EV_bk (k := 400) ?_, KC_t (KC_PF f) (KC_t KC_28 (KC_t KC_28 KC_28)), by rw [u3x (by decide), u3s], by rw [u3s, f4]⟩
    rw [bk_40_0, hl 28 0 0 rfl (by decide) (by decide), cond_true, e]
    simp only [ev_bv, hl 28 0 0 rfl (by decide) (by decide), cond_true]
    rw [f3, if_pos g1, ev]
    simp only [ev_bi]
    by_cases y : tk_n b len p < lo
    · rw [if_pos (show ev_u3 d1 28 0 4 (tk_n b len p) 28 0 4 < lo by rw [u3s]; exact y), ec_fail hl, u3n (by decide)]
      rfl
    · rw [if_neg (show ¬ ev_u3 d1 28 0 4 (tk_n b len p) 28 0 4 < lo by rw [u3s]; exact y), if_neg (show ¬ ev_u3 d1 28 0 4 (tk_n b len p) 28 0 4 ≤ hi by rw [u3s]; exact fun v => g ⟨g1, Int32.not_lt.mp y, v⟩), ec_fail hl, u3n (by decide)]
      rfl
  · rw [if_neg g1]
    refine ⟨ev_u3 (ev_u3 d1 28 0 5 1) 28 0 6 (d1 29 0 4), EV_bk (k := 400) ?_, KC_t (KC_PF f) (KC_t KC_28 KC_28), by rw [u3x (by decide), u3s], by rw [u3s, f4]⟩
    rw [bk_40_0, hl 28 0 0 rfl (by decide) (by decide), cond_true, e]
    simp only [ev_bv, hl 28 0 0 rfl (by decide) (by decide), cond_true]
    rw [f3, if_neg g1, ec_fail hl]
    rfl
theorem em_next (hl : LK lk) {b : Nat → Int32} {len p : Nat} (h : RH d b len p) : ∃ d', EV (137, 0, [ev_R 44 0], [], 0, 0) (n, lk, d, o) = some (.inl none, (n, lk, d', o)) ∧ PF 44 6 9 d d' ∧ RH d' b len (tk_e b len p) := by
  obtain ⟨h1, h2, h3, h4, h5⟩ := h
  obtain ⟨a1, a2, -⟩ := tk_ele (b := b) h1
  obtain ⟨d', e, f, g⟩ := em_adv (n := n) (o := o) hl a2 h2 h3.2.1
  exact ⟨d', e, f, a2, TB_PF h2 f, g, by rw [f.2 10 (by decide), h4], by rw [f.2 11 (by decide), h5]⟩
theorem RH_KR {d d' : Nat → Nat → Nat → Int32} {b : Nat → Int32} {len p : Nat} (h : RH d b len p) (hf : ∀ r, r ≠ 44 → d' r = d r) (h5 : ∀ k, k < 12 → d' 44 0 k = d 44 0 k) : RH d' b len p := by
  obtain ⟨h1, ⟨t1, t2, t3⟩, ⟨r1, r2, r3, r4⟩, h4, h4'⟩ := h
  exact ⟨h1, ⟨t1, by rw [h5 5 (by decide), t2], fun x hx => by rw [hf 47 (by decide)]; exact t3 x hx⟩, ⟨by rw [h5 6 (by decide), r1], by rw [h5 7 (by decide), r2], by rw [h5 8 (by decide), r3], fun v => by rw [h5 9 (by decide), r4 v]⟩, by rw [h5 10 (by decide), h4], by rw [h5 11 (by decide), h4']⟩
theorem em_num1 (hl : LK lk) {b : Nat → Int32} {len p : Nat} {lo hi : Int32} (h : RH d b len p) (g : NG b len p lo hi) :
    ∃ d', EV (141, 0, [ev_R 44 0, ev_I lo, ev_I hi], [], 0, 0) (n, lk, d, o) = some (.inl (some (ev_I 1)), (n, lk, d', o)) ∧ KR d d' ∧ RH d' b len (tk_e b len p) ∧ d' 44 0 12 = tk_n b len p := by
  obtain ⟨g1, g2, g3⟩ := g
  have h9 : d 44 0 9 = tk_n b len p := h.2.2.1.2.2.2 g1
  have h1 : RH (ev_u3 d 44 0 12 (tk_n b len p)) b len p := RH_KR h (fun r hr => u3n hr) (fun k hk => u3x (by omega))
  obtain ⟨d', e, f, g⟩ := em_next (n := n) (o := o) hl h1
  refine ⟨d', EV_bk (k := 400) ?_, KR_t (KR_u (by decide) (by decide)) (KR_PF f), g, by rw [f.2 12 (by decide), u3s]⟩
  rw [bk_141_0, h.2.2.1.2.2.1, if_pos g1, h9, em_in ⟨g2, g3⟩]
  simp only [ev_bi]
  rw [if_neg (by decide), h9, e]
  rfl
theorem em_num0 {b : Nat → Int32} {len p : Nat} {lo hi : Int32} (h : RH d b len p) (g : ¬ NG b len p lo hi) :
    ∃ d', EV (141, 0, [ev_R 44 0, ev_I lo, ev_I hi], [], 0, 0) (n, lk, d, o) = some (.inl (some (ev_I 0)), (n, lk, d', o)) ∧ KR d d' ∧ d' 44 0 10 = NE b len p ∧ d' 44 0 11 = Int32.ofNat (tk_s b len p) := by
  have h0 := h.2.2.2.1
  unfold NE
  by_cases g1 : tk_k b len p = 2
  · have h9 : d 44 0 9 = tk_n b len p := h.2.2.1.2.2.2 g1
    rw [if_pos g1]
    refine ⟨ev_u3 (ev_u3 d 44 0 10 3) 44 0 11 (d 44 0 6), EV_bk (k := 400) ?_, KR_t (KR_u (by decide) (by decide)) (KR_u (by decide) (by decide)), by rw [u3x (by decide), u3s], by rw [u3s, h.2.2.1.1]⟩
    rw [bk_141_0, h.2.2.1.2.2.1, if_pos g1, h9, em_out (fun v => g ⟨g1, v⟩)]
    simp only [ev_bi]
    rw [if_pos trivial, em_fails h0]
    rfl
  · rw [if_neg g1]
    refine ⟨ev_u3 (ev_u3 d 44 0 10 1) 44 0 11 (d 44 0 6), EV_bk (k := 400) ?_, KR_t (KR_u (by decide) (by decide)) (KR_u (by decide) (by decide)), by rw [u3x (by decide), u3s], by rw [u3s, h.2.2.1.1]⟩
    rw [bk_141_0, h.2.2.1.2.2.1, if_neg g1, em_fails h0]
    rfl
theorem ec_semi1 (hl : LK lk) {b : Nat → Int32} {len p : Nat} (h : CT d b len p) (g : tk_k b len p = 3) : ∃ d', EV (41, 0, [ev_R 28 0], [], 0, 0) (n, lk, d, o) = some (.inl (some (ev_I 1)), (n, lk, d', o)) ∧ KC d d' ∧ CT d' b len (tk_e b len p) := by
  obtain ⟨d1, e, f, c, f3, f4⟩ := ec_tok (n := n) (o := o) hl h
  refine ⟨d1, EV_bk (k := 400) ?_, KC_PF f, c⟩
  rw [bk_41_0, hl 28 0 0 rfl (by decide) (by decide), cond_true, e]
  simp only [ev_bv, hl 28 0 0 rfl (by decide) (by decide), cond_true]
  rw [if_pos (show d1 29 0 3 = 3 by rw [f3]; exact g)]
theorem ec_semi0 (hl : LK lk) {b : Nat → Int32} {len p : Nat} (h : CT d b len p) (g : ¬ tk_k b len p = 3) : ∃ d', EV (41, 0, [ev_R 28 0], [], 0, 0) (n, lk, d, o) = some (.inl (some (ev_I 0)), (n, lk, d', o)) ∧ KC d d' ∧ d' 28 0 5 = 1 ∧ d' 28 0 6 = Int32.ofNat (tk_s b len p) := by
  obtain ⟨d1, e, f, c, f3, f4⟩ := ec_tok (n := n) (o := o) hl h
  refine ⟨ev_u3 (ev_u3 d1 28 0 5 1) 28 0 6 (d1 29 0 4), EV_bk (k := 400) ?_, KC_t (KC_PF f) (KC_t KC_28 KC_28), by rw [u3x (by decide), u3s], by rw [u3s, f4]⟩
  rw [bk_41_0, hl 28 0 0 rfl (by decide) (by decide), cond_true, e]
  simp only [ev_bv, hl 28 0 0 rfl (by decide) (by decide), cond_true]
  rw [if_neg (show ¬ d1 29 0 3 = 3 by rw [f3]; exact g), ec_fail hl]
  rfl
theorem em_starts1 (hl : LK lk) {b : Nat → Int32} {len p : Nat} {x : Int32} (h : RH d b len p) : ∃ d', EV (140, 0, [ev_R 44 0, ev_I x, ev_I 1], [], 0, 0) (n, lk, d, o) = some (.inl (some (ev_I 1)), (n, lk, d', o)) ∧ PF 44 6 9 d d' ∧ RH d' b len (tk_e b len p) := by
  obtain ⟨d', e, f, g⟩ := em_next (n := n) (o := o) hl h
  refine ⟨d', EV_bk (k := 400) ?_, f, g⟩
  rw [bk_140_0, if_neg (by decide), e]
  rfl
theorem em_starts0 {b : Nat → Int32} {len p : Nat} {x : Int32} (h : RH d b len p) : ∃ d', EV (140, 0, [ev_R 44 0, ev_I x, ev_I 0], [], 0, 0) (n, lk, d, o) = some (.inl (some (ev_I 0)), (n, lk, d', o)) ∧ KR d d' ∧ d' 44 0 10 = x ∧ d' 44 0 11 = Int32.ofNat (tk_s b len p) := by
  refine ⟨ev_u3 (ev_u3 d 44 0 10 x) 44 0 11 (d 44 0 6), EV_bk (k := 400) ?_, KR_t (KR_u (by decide) (by decide)) (KR_u (by decide) (by decide)), by rw [u3x (by decide), u3s], by rw [u3s, h.2.2.1.1]⟩
  rw [bk_140_0, if_pos rfl, em_fails h.2.2.2.1]
  rfl
theorem em_semi1 (hl : LK lk) {b : Nat → Int32} {len p : Nat} (h : RH d b len p) (g : tk_k b len p = 3) : ∃ d', EV (143, 0, [ev_R 44 0], [], 0, 0) (n, lk, d, o) = some (.inl (some (ev_I 1)), (n, lk, d', o)) ∧ KR d d' ∧ RH d' b len (tk_e b len p) := by
  obtain ⟨d', e, f, c⟩ := em_starts1 (n := n) (o := o) (x := 1) hl h
  refine ⟨d', EV_bk (k := 400) ?_, KR_PF f, c⟩
  rw [bk_143_0, if_pos (show d 44 0 8 = 3 by rw [h.2.2.1.2.2.1]; exact g), e]
  rfl
theorem em_semi0 {b : Nat → Int32} {len p : Nat} (h : RH d b len p) (g : ¬ tk_k b len p = 3) : ∃ d', EV (143, 0, [ev_R 44 0], [], 0, 0) (n, lk, d, o) = some (.inl (some (ev_I 0)), (n, lk, d', o)) ∧ KR d d' ∧ d' 44 0 10 = 1 ∧ d' 44 0 11 = Int32.ofNat (tk_s b len p) := by
  obtain ⟨d', e, f⟩ := em_starts0 (n := n) (lk := lk) (o := o) (x := 1) h
  refine ⟨d', EV_bk (k := 400) ?_, f⟩
  rw [bk_143_0, if_neg (show ¬ d 44 0 8 = 3 by rw [h.2.2.1.2.2.1]; exact g), e]
  rfl
end EC42
