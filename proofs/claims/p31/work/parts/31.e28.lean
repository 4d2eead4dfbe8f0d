/-! THE PROGRAM AGAINST THE REFERENCE, 14: numbers; the ticker looks at a bank -/
theorem i32_add {x y : Int32} (h1 : -2147483648 ≤ x.toInt + y.toInt) (h2 : x.toInt + y.toInt ≤ 2147483647) : (x + y).toInt = x.toInt + y.toInt := by
  rw [Int32.toInt_add]
  exact Int.bmod_eq_of_le (by simpa using h1) (by have : x.toInt + y.toInt < 2147483648 := by omega
                                                  simpa using this)
theorem i32_neg {x : Int32} (h : -2147483648 < x.toInt) : (-x).toInt = -x.toInt := by
  rw [Int32.toInt_neg]
  have h2 : x.toInt ≤ 2147483647 := Int32.toInt_le x
  exact Int.bmod_eq_of_le (by have : -2147483648 ≤ -x.toInt := by omega
                              simpa using this) (by have : -x.toInt < 2147483648 := by omega
                                                    simpa using this)
theorem i32_sub {x y : Int32} (h1 : -2147483648 ≤ x.toInt - y.toInt) (h2 : x.toInt - y.toInt ≤ 2147483647) : (x - y).toInt = x.toInt - y.toInt := by
  rw [Int32.toInt_sub]
  exact Int.bmod_eq_of_le (by simpa using h1) (by have : x.toInt - y.toInt < 2147483648 := by omega
                                                  simpa using this)
theorem i32_mul {x y : Int32} (h1 : -2147483648 ≤ x.toInt * y.toInt) (h2 : x.toInt * y.toInt ≤ 2147483647) : (x * y).toInt = x.toInt * y.toInt := by
  rw [Int32.toInt_mul]
  exact Int.bmod_eq_of_le (by simpa using h1) (by have : x.toInt * y.toInt < 2147483648 := by omega
                                                  simpa using this)
theorem u3s {d : Nat → Nat → Nat → Int32} {r i k : Nat} {v : Int32} : ev_u3 d r i k v r i k = v := by rw [u3r, u1s]
theorem u3x {d : Nat → Nat → Nat → Int32} {r i k x : Nat} {v : Int32} (h : x ≠ k) : ev_u3 d r i k v r i x = d r i x := by rw [u3r, u1n h]
/-- what a look at bank b leaves as it was -/
def FL (d d' : Nat → Nat → Nat → Int32) (b : Nat) : Prop := (∀ r, r < 33 ∨ 36 < r → d' r = d r) ∧ (∀ x, x ≠ b → d' 34 0 x = d 34 0 x ∧ d' 35 0 x = d 35 0 x ∧ d' 36 0 x = d 36 0 x) ∧ ∀ c, c < 16 * b ∨ 16 * b + 16 ≤ c → d' 33 0 c = d 33 0 c
theorem FL_r (d : Nat → Nat → Nat → Int32) (b : Nat) : FL d d b := ⟨fun _ _ => rfl, fun _ _ => ⟨rfl, rfl, rfl⟩, fun _ _ => rfl⟩
theorem FL_t {d d' d'' : Nat → Nat → Nat → Int32} {b : Nat} (h : FL d d' b) (h' : FL d' d'' b) : FL d d'' b :=
  ⟨fun r z => (h'.1 r z).trans (h.1 r z), fun x z => ⟨(h'.2.1 x z).1.trans (h.2.1 x z).1, (h'.2.1 x z).2.1.trans (h.2.1 x z).2.1, (h'.2.1 x z).2.2.trans (h.2.1 x z).2.2⟩, fun c z => (h'.2.2 c z).trans (h.2.2 c z)⟩
theorem FL_33 {d : Nat → Nat → Nat → Int32} {b r : Nat} {v : Int32} (hr : r < 16) : FL d (ev_u3 d 33 0 (16 * b + r) v) b :=
  ⟨fun r' z => u3n (by omega), fun x _ => by rw [u3n (by decide), u3n (by decide), u3n (by decide)]; exact ⟨rfl, rfl, rfl⟩, fun c z => u3x (by omega)⟩
theorem FL_34 {d : Nat → Nat → Nat → Int32} {b : Nat} {v : Int32} : FL d (ev_u3 d 34 0 b v) b :=
  ⟨fun r' z => u3n (by omega), fun x z => by rw [u3x z, u3n (by decide), u3n (by decide)]; exact ⟨rfl, rfl, rfl⟩, fun c z => by rw [u3n (by decide)]⟩
theorem FL_35 {d : Nat → Nat → Nat → Int32} {b : Nat} {v : Int32} : FL d (ev_u3 d 35 0 b v) b :=
  ⟨fun r' z => u3n (by omega), fun x z => by rw [u3x z, u3n (by decide), u3n (by decide)]; exact ⟨rfl, rfl, rfl⟩, fun c z => by rw [u3n (by decide)]⟩
theorem FL_36 {d : Nat → Nat → Nat → Int32} {b : Nat} {v : Int32} : FL d (ev_u3 d 36 0 b v) b :=
  ⟨fun r' z => u3n (by omega), fun x z => by rw [u3x z, u3n (by decide), u3n (by decide)]; exact ⟨rfl, rfl, rfl⟩, fun c z => by rw [u3n (by decide)]⟩
section EC10
variable {n : Nat} {lk : Nat → Nat → Nat → Bool} {d : Nat → Nat → Nat → Int32} {o : ev_W}
theorem ec_lookAt (hl : LK lk) {i : Nat} (hi : i < 15) {t w : Nat → Int32} {C K R b : Nat} (hs : CS d i w C K) (hL : CL d 1 t) (hR : t 1 = Int32.ofNat R) (h16 : R ≤ 16) (hb : b < 4) (hm : ms_rem t w b 0 < 1000000000) :
    ∃ d', EV (76, 0, [ev_R 32 0, ev_R 0 i, ev_I (Int32.ofNat b)], [], 0, 0) (n, lk, d, o) = some (.inl none, (n, lk, d', o)) ∧ FL d d' b ∧ d' 34 0 b = Int32.ofNat (ms_weak t w b R) ∧ (0 < R → d' 35 0 b = ms_rem t w b (ms_weak t w b R)) ∧
      d' 36 0 b = ms_en (ms_wat w b C 0 (-1)) ∧ ∀ r, r < R → d' 33 0 (16 * b + r) = ms_bound t w b r := by
  have loop : ∀ j r (d : Nat → Nat → Nat → Int32), r + j = R → CS d i w C K → CL d 1 t → d 34 0 b = Int32.ofNat (ms_weak t w b r) → d 35 0 b = (if r = 0 then 1000000000 else ms_rem t w b (ms_weak t w b r)) → (∀ r', r' < r → d 33 0 (16 * b + r') = ms_bound t w b r') →
      ∃ d', EV (76, 17, [ev_R 32 0, ev_R 0 i, ev_I (Int32.ofNat b), ev_I (Int32.ofNat r)], [], 0, 0) (n, lk, d, o) = some (.inl none, (n, lk, d', o)) ∧ FL d d' b ∧ d' 34 0 b = Int32.ofNat (ms_weak t w b R) ∧ (0 < R → d' 35 0 b = ms_rem t w b (ms_weak t w b R)) ∧
      d' 36 0 b = ms_en (ms_wat w b C 0 (-1)) ∧ ∀ r, r < R → d' 33 0 (16 * b + r) = ms_bound t w b r := by
    intro j
    induction j with
    | zero =>
      intro r d hr hs hL h34 h35 h33
      have er : r = R := by omega
      subst er
      have hin : EV (51, 0, [ev_R 17 i, ev_I (Int32.ofNat b), ev_I 0], [], 0, 0) (n, lk, d, o) = some (.inl (some (ev_I (ms_en (ms_wat w b C 0 (-1))))), (n, lk, d, o)) := ec_inLineOf hl hi hs hb (k := 0) (by omega)
      refine ⟨ev_u3 d 36 0 b (ms_en (ms_wat w b C 0 (-1))), ?_, FL_36, ?_, ?_, u3s, ?_⟩
      · refine EV_bk (k := 400) ?_
        rw [bk_76_17, hl 32 0 0 rfl (by decide) (by decide), cond_true, hL.2.1, hR, if_neg (fun z => by have := (ni_lt (by omega) (by omega)).mp z; omega)]
        simp only [hl 32 0 4 rfl (by decide) (by decide), hl 0 i 8 rfl hi (by decide), cond_true, hin, ev_bi, ni_in (n := b) (N := 4) (by omega) (by omega), ni_c (n := b) (by omega)]
      · rw [u3n (by decide), h34]
      · intro z
        rw [u3n (by decide), h35, if_neg (by omega)]
      · intro r' hr'
        rw [u3n (by decide), h33 r' hr']
    | succ j ih =>
      intro r d hr hs hL h34 h35 h33
      have hlt : Int32.ofNat r < Int32.ofNat R := (ni_lt (by omega) (by omega)).mpr (by omega)
      have hr16 : r < 16 := by omega
      have hco := ec_cellOf (b := b) (r := r) (μ := (n, lk, d, o))
      have hbo := ec_boundOf (n := n) (o := o) (d := d) hl hi (l := 1) (by decide) hb hr16
      have hbm := mc_ms_bound hL hs hb hr16
      have h12 : d 12 i (16 * b + r) = w (55 + 5 * (16 * b + r)) := cs_12 hs (by omega)
      have hst : ms_weak t w b (r + 1) = if ms_rem t w b r < ms_rem t w b (ms_weak t w b r) then r else ms_weak t w b r := rfl
      have hrem : ms_bound t w b r - w (55 + 5 * (16 * b + r)) = ms_rem t w b r := rfl
      by_cases c : ms_rem t w b r < d 35 0 b
      · have hw : ms_weak t w b (r + 1) = r := by
          by_cases z : r = 0
          · subst z
            rw [hst]
            by_cases y : ms_rem t w b 0 < ms_rem t w b (ms_weak t w b 0)
            · rw [if_pos y]
            · rw [if_neg y]; rfl
          · rw [h35, if_neg z] at c
            rw [hst, if_pos c]
        have f1 : FL d (ev_u3 (ev_u3 (ev_u3 d 33 0 (16 * b + r) (ms_bound t w b r)) 35 0 b (ms_rem t w b r)) 34 0 b (Int32.ofNat r)) b := FL_t (FL_t (FL_33 hr16) FL_35) FL_34
        obtain ⟨d', e1, e2, e3⟩ := ih (r + 1) (ev_u3 (ev_u3 (ev_u3 d 33 0 (16 * b + r) (ms_bound t w b r)) 35 0 b (ms_rem t w b r)) 34 0 b (Int32.ofNat r)) (by omega)
          (CS_d hs (fun r' hr' => by rw [f1.1 r' (by omega)])) (CL_d hL (by rw [f1.1 24 (by decide)]) (by rw [f1.1 25 (by decide)]) (by rw [f1.1 26 (by decide)]))
          (by rw [u3s, hw]) (by rw [u3n (by decide), u3s, if_neg (by omega), hw])
          (fun r' hr' => by
            rw [u3n (by decide), u3n (by decide)]
            by_cases z : r' = r
            · rw [z, u3s]
            · rw [u3x (by omega), h33 r' (by omega)])
        refine ⟨d', ?_, FL_t f1 e2, e3⟩
        refine EV_bk (k := 400) ?_
        rw [bk_76_17, hl 32 0 0 rfl (by decide) (by decide), cond_true, hL.2.1, hR, if_pos hlt, hco]
        simp only [ev_bi, hl 32 0 0 rfl (by decide) (by decide), hl 32 0 1 rfl (by decide) (by decide), cond_true]
        rw [hbo, hbm]
        simp only [hl 32 0 1 rfl (by decide) (by decide), hl 32 0 2 rfl (by decide) (by decide), hl 32 0 3 rfl (by decide) (by decide), hl 0 i 7 rfl hi (by decide), hl 11 i 0 rfl hi (by decide), cond_true, ni_in (n := 16 * b + r) (N := 64) (by omega) (by omega), ni_c (n := 16 * b + r) (by omega), ni_in (n := b) (N := 4) (by omega) (by omega), ni_c (n := b) (by omega), u3s, h12, hrem]
        rw [if_pos c, ni_1]
        exact e1
      · have hz : ¬ r = 0 := fun z => by
          rw [h35, if_pos z] at c
          subst z
          exact c hm
        rw [h35, if_neg hz] at c
        have hw : ms_weak t w b (r + 1) = ms_weak t w b r := by rw [hst, if_neg c]
        have f1 : FL d (ev_u3 d 33 0 (16 * b + r) (ms_bound t w b r)) b := FL_33 hr16
        obtain ⟨d', e1, e2, e3⟩ := ih (r + 1) (ev_u3 d 33 0 (16 * b + r) (ms_bound t w b r)) (by omega)
          (CS_d hs (fun r' hr' => by rw [f1.1 r' (by omega)])) (CL_d hL (by rw [f1.1 24 (by decide)]) (by rw [f1.1 25 (by decide)]) (by rw [f1.1 26 (by decide)]))
          (by rw [u3n (by decide), hw, h34]) (by rw [u3n (by decide), h35, if_neg hz, if_neg (by omega), hw])
          (fun r' hr' => by
            by_cases z : r' = r
            · rw [z, u3s]
            · rw [u3x (by omega), h33 r' (by omega)])
        refine ⟨d', ?_, FL_t f1 e2, e3⟩
        refine EV_bk (k := 400) ?_
        rw [bk_76_17, hl 32 0 0 rfl (by decide) (by decide), cond_true, hL.2.1, hR, if_pos hlt, hco]
        simp only [ev_bi, hl 32 0 0 rfl (by decide) (by decide), hl 32 0 1 rfl (by decide) (by decide), cond_true]
        rw [hbo, hbm]
        simp only [hl 32 0 1 rfl (by decide) (by decide), hl 32 0 2 rfl (by decide) (by decide), hl 32 0 3 rfl (by decide) (by decide), hl 0 i 7 rfl hi (by decide), hl 11 i 0 rfl hi (by decide), cond_true, ni_in (n := 16 * b + r) (N := 64) (by omega) (by omega), ni_c (n := 16 * b + r) (by omega), ni_in (n := b) (N := 4) (by omega) (by omega), ni_c (n := b) (by omega), u3s, h12, hrem]
        rw [h35, if_neg hz, if_neg c, ni_1]
        exact e1
  have f1 : FL d (ev_u3 (ev_u3 d 35 0 b 1000000000) 34 0 b 0) b := FL_t FL_35 FL_34
  obtain ⟨d', e1, e2, e3⟩ := loop R 0 (ev_u3 (ev_u3 d 35 0 b 1000000000) 34 0 b 0) (by omega) (CS_d hs (fun r' hr' => by rw [f1.1 r' (by omega)]))
    (CL_d hL (by rw [f1.1 24 (by decide)]) (by rw [f1.1 25 (by decide)]) (by rw [f1.1 26 (by decide)])) u3s (by rw [u3n (by decide), u3s, if_pos rfl]) (fun r' hr' => absurd hr' (Nat.not_lt_zero _))
  refine ⟨d', ?_, FL_t f1 e2, e3⟩
  refine EV_bk (k := 400) ?_
  rw [bk_76_0]
  simp only [hl 32 0 2 rfl (by decide) (by decide), hl 32 0 3 rfl (by decide) (by decide), cond_true, ni_in (n := b) (N := 4) (by omega) (by omega), ni_c (n := b) (by omega)]
  exact e1
theorem ec_wishOf (hl : LK lk) {i : Nat} (hi : i < 15) {t w : Nat → Int32} {C K b k : Nat} (hs : CS d i w C K) (hb : b < 4) (h35 : d 35 0 b = ms_rem t w b k) (h36 : d 36 0 b = ms_en (ms_wat w b C 0 (-1))) :
    EV (77, 0, [ev_R 32 0, ev_R 0 i, ev_I (Int32.ofNat b)], [], 0, 0) (n, lk, d, o) = some (.inl (some (ev_I (Int32.ofNat (ms_wish t w C b k)))), (n, lk, d, o)) := by
  have hC := cs_C hs
  have hha := ec_has (i := i) (x := ms_en (ms_wat w b C 0 (-1))) (μ := (n, lk, d, o))
  simp only [cs_ct hs, cs_w9 hs] at hha
  have g1 : d 1 i 1 = w 1 := cs_1 hs (by decide)
  have g2 : d 1 i 2 = w 2 := cs_1 hs (by decide)
  have g5 : d 1 i 5 = w 5 := cs_1 hs (by decide)
  have g6 : d 1 i 6 = w 6 := cs_1 hs (by decide)
  refine EV_bk (k := 400) ?_
  rw [bk_77_0]
  simp only [hl 0 i 6 rfl hi (by decide), hl 3 i 0 rfl hi (by decide), hl 32 0 4 rfl (by decide) (by decide), hl 0 i 8 rfl hi (by decide), cond_true, ni_in (n := b) (N := 4) (by omega) (by omega), ni_c (n := b) (by omega), h36, cs_4 hs hb]
  rw [hha]
  simp only [ev_bi, hl 32 0 3 rfl (by decide) (by decide), hl 0 i 4 rfl hi (by decide), hl 0 i 8 rfl hi (by decide), hl 17 i 4 rfl hi (by decide), cond_true, h35, g1, g2, g5, g6, cs_tm hs]
  unfold ms_wish
  cases hq : ms_wat w b C 0 (-1) with
  | none =>
    have e0 : ¬ ((0 : Int32) ≤ ms_en none ∧ ms_en none < Int32.ofNat C) := fun z => absurd z.1 (by decide)
    rw [if_neg e0]
    by_cases c1 : ms_rem t w b k ≤ w 6
    · rw [if_pos c1, if_pos c1]; rfl
    · rw [if_neg c1, if_neg c1, if_pos rfl, if_neg (show ¬ ms_late w none from fun z => Bool.false_ne_true z)]
      by_cases c3 : w (19 + 9 * b + 0) < w 1
      · rw [if_pos c3, if_neg (Int32.not_le.mpr c3), if_pos rfl, if_neg (show ¬ (none : Option Nat).isSome = true by decide)]
        by_cases c5 : w (19 + 9 * b + 0) ≤ 0
        · rw [if_pos c5, if_neg (Int32.not_lt.mpr c5)]
          by_cases c6 : w (19 + 9 * b + 0) ≤ -(w 2)
          · rw [if_pos c6, if_neg (Int32.not_lt.mpr c6)]; rfl
          · rw [if_neg c6, if_pos (Int32.not_le.mp c6)]; rfl
        · rw [if_neg c5, if_pos (Int32.not_le.mp c5)]; rfl
      · rw [if_neg c3, if_pos (Int32.not_lt.mp c3)]; rfl
  | some q =>
    have hq' := ms_wat_lt hq
    have e0 : (0 : Int32) ≤ ms_en (some q) ∧ ms_en (some q) < Int32.ofNat C := ⟨(ni_le (a := 0) (by omega) (by omega)).mpr (Nat.zero_le _), (ni_lt (by omega) (by omega)).mpr hq'⟩
    have e2 : ev_in (ms_en (some q)) 40 = true := ni_in (n := q) (by omega) (by omega)
    have e3 : (ms_en (some q)).toNatClampNeg = q := ni_c (n := q) (by omega)
    rw [if_pos e0]
    simp only [e2, e3, cond_true, cs_20 hs hq']
    by_cases c1 : ms_rem t w b k ≤ w 6
    · rw [if_pos c1, if_pos c1]; rfl
    · rw [if_neg c1, if_neg c1, if_neg (by decide)]
      by_cases c2 : w 8 - w (375 + 6 * q + 2) < w 5
      · rw [if_pos c2, if_neg (show ¬ ms_late w (some q) from fun z => Int32.not_le.mpr c2 (of_decide_eq_true z))]
        by_cases c3 : w (19 + 9 * b + 0) < w 1
        · rw [if_pos c3, if_neg (Int32.not_le.mpr c3), if_neg (by decide), if_pos (show (some q).isSome = true from rfl)]; rfl
        · rw [if_neg c3, if_pos (Int32.not_lt.mp c3)]; rfl
      · rw [if_neg c2, if_pos (show ms_late w (some q) from decide_eq_true (Int32.not_lt.mp c2))]; rfl
end EC10
