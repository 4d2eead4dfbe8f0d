/-! THE PROGRAM AGAINST THE REFERENCE, 62: the head of a text is read -/
def KU (d d' : Nat → Nat → Nat → Int32) : Prop := (∀ r, r ≠ 44 → r ≠ 48 → r ≠ 49 → r ≠ 50 → d' r = d r) ∧ (∀ k, 14 < k → d' 44 0 k = d 44 0 k) ∧ d' 44 0 0 = 0 ∧ d' 44 0 4 = 0
theorem KU_KT {d d' d'' : Nat → Nat → Nat → Int32} (h : KU d d') (h' : KT d' d'') : KU d d'' := ⟨fun r x y z u => (h'.1 r x y z u).trans (h.1 r x y z u), fun k hk => (h'.2 k (.inr hk)).trans (h.2.1 k hk), by rw [h'.2 0 (by decide), h.2.2.1], by rw [h'.2 4 (by decide), h.2.2.2]⟩
theorem pr_head {lk : Nat → Nat → Nat → Bool} (hl : LK lk) {d dc : Nat → Nat → Nat → Int32} {b : Nat → Int32} {L len : Nat} (hL : d 44 0 4 = Int32.ofNat L) (hll : len ≤ L) (h6 : L ≤ 600) (hb : ∀ x, x < len → d 47 0 x = b x ∧ ms_rg (b x) (-128) 127) (hc : CT dc b len 0) (hq : QB dc) (n : Nat) (o : ev_W) (m : Nat) (u : ev_W) :
    (∃ dc' dr' q B R, EV (34, 0, [ev_R 28 0], [], 0, 0) (n, lk, dc, o) = some (.inl (some (ev_I 1)), (n, lk, dc', o)) ∧ (∀ t, EV (151, 136, [ev_R 44 0, ev_I (Int32.ofNat len), ev_I 1], [], 0, 0) (m, lk, dr', u) = some t → EV (151, 0, [ev_R 44 0, ev_I (Int32.ofNat len)], [], 0, 0) (m, lk, d, u) = some t) ∧ KS dc dc' ∧ KU d dr' ∧ CT dc' b len q ∧ RH dr' b len q ∧ QS dc' dr' B R 0) ∨
    ∃ dc' dr', EV (34, 0, [ev_R 28 0], [], 0, 0) (n, lk, dc, o) = some (.inl (some (ev_I 0)), (n, lk, dc', o)) ∧ (∀ t, EV (151, 136, [ev_R 44 0, ev_I (Int32.ofNat len), ev_I 0], [], 0, 0) (m, lk, dr', u) = some t → EV (151, 0, [ev_R 44 0, ev_I (Int32.ofNat len)], [], 0, 0) (m, lk, d, u) = some t) ∧ KS dc dc' ∧ KU d dr' ∧ PE dc' dr' := by
  have l0 : lk 28 0 0 = true := hl 28 0 0 rfl (by decide) (by decide)
  have l1 : lk 28 0 1 = true := hl 28 0 1 rfl (by decide) (by decide)
  obtain ⟨⟨a0, a1, a2, a3, a4⟩, ac, as, a31⟩ := hq
  -- the reference begins
  have i129 : EV (129, 0, [ev_I (Int32.ofNat len), ev_I 0, ev_I (Int32.ofNat L)], [], 0, 0) (m, lk, ev_u3 d 44 0 0 0, u) = some (.inl (some (ev_I 1)), (m, lk, ev_u3 d 44 0 0 0, u)) := em_in ⟨ni_lo (by omega), (ni_le (by omega) (by omega)).mpr hll⟩
  have f0 : ev_u3 d 44 0 0 0 44 0 4 = Int32.ofNat L := by rw [u3x (by decide), hL]
  have i130 := em_throws0 (n := m) (lk := lk) (o := u) (d := ev_u3 d 44 0 0 0) (k := 1) u3s
  obtain ⟨dy, ey, ⟨fy1, fy2⟩, y48, y49, y13, y14⟩ := em_clears (n := m) (lk := lk) (o := u) (d := ev_u3 (ev_u3 (ev_u3 (ev_u3 (ev_u3 (ev_u3 d 44 0 0 0) 44 0 5 (Int32.ofNat len)) 44 0 4 0) 44 0 7 0) 44 0 10 0) 44 0 11 (-1)) (hl 44 0 15 rfl (by decide) (by decide)) (hl 44 0 16 rfl (by decide) (by decide))
  have ty : TB dy b len := ⟨by omega, by rw [fy2 5 (by decide), u3x (by decide), u3x (by decide), u3x (by decide), u3x (by decide), u3s], fun x hx => by
    rw [fy1 47 (by decide) (by decide) (by decide), u3n (by decide), u3n (by decide), u3n (by decide), u3n (by decide), u3n (by decide), u3n (by decide)]
    exact hb x hx⟩
  have y7 : dy 44 0 7 = Int32.ofNat 0 := by
    rw [fy2 7 (by decide), u3x (by decide), u3x (by decide), u3s]
    rfl
  obtain ⟨dr, er, fr, gr⟩ := em_adv (n := m) (o := u) hl (Nat.zero_le len) ty y7
  have hr : RH dr b len 0 := ⟨Nat.zero_le _, TB_PF ty fr, gr, by rw [fr.2 10 (by decide), fy2 10 (by decide), u3x (by decide), u3s], by rw [fr.2 11 (by decide), fy2 11 (by decide), u3s]⟩
  have ku : KU d dr := ⟨fun r x y z w => by rw [fr.1 r x, fy1 r x y z, u3n x, u3n x, u3n x, u3n x, u3n x, u3n x], fun k hk => by rw [fr.2 k (by omega), fy2 k (by omega), u3x (by omega), u3x (by omega), u3x (by omega), u3x (by omega), u3x (by omega), u3x (by omega)], by rw [fr.2 0 (by decide), fy2 0 (by decide), u3x (by decide), u3x (by decide), u3x (by decide), u3x (by decide), u3x (by decide), u3s], by rw [fr.2 4 (by decide), fy2 4 (by decide), u3x (by decide), u3x (by decide), u3x (by decide), u3s]⟩
  have r48 : ∀ k, k < 132 → dr 48 0 k = 0 := fun k hk => by rw [fr.1 48 (by decide), y48 k hk]
  have r49 : ∀ k, k < 8 → dr 49 0 k = us_s k := fun k hk => by rw [fr.1 49 (by decide), y49 k hk]
  have r13 : dr 44 0 13 = 0 := by rw [fr.2 13 (by decide), y13]
  have r14 : dr 44 0 14 = 0 := by rw [fr.2 14 (by decide), y14]
  -- the word
  obtain ⟨c1, e1, f1, g1, k1, s1⟩ := ec_tok (n := n) (o := o) hl hc
  have w5 : c1 29 0 5 = Int32.ofNat (tk_e b len 0) := g1.2.2.2.2
  have cw := ec_isWord (n := n) (o := o) hl (tk_ok1 (k := 0) (by decide)) (Nat.zero_le len) hc.2.1 k1 s1 w5 g1.2.2.2.1
  have rw' := em_isWord (n := m) (o := u) hl (tk_ok2 (k := 0) (by decide)) (Nat.zero_le len) hr.2.1 hr.2.2.1
  by_cases z : tk_is b len 0 (1 + 0)
  · have z' := (tk_is2 (k := 0) (by decide)).mp z
    have cw := cw.1 z
    have rw' := rw'.1 z'
    obtain ⟨x1, ex1, fx1, hx1⟩ := em_starts1 (n := m) (o := u) (x := 1) hl hr
    have kx1 := KR_PF fx1
    have q1 := g1.1
    generalize tk_e b len 0 = P1 at *
    by_cases n1 : NG b len P1 1 4
    · obtain ⟨c2, e2, f2, g2, v2, -⟩ := ec_num1 (n := n) (o := o) hl g1 n1
      obtain ⟨x2, ex2, fx2, hx2⟩ := em_lays1 (n := m) (o := u) hl hx1 n1 (k := 0) (by decide)
      obtain ⟨B, hBm, hB, hB1, hB4⟩ := NG_of q1 n1
      rw [hB] at v2 ex2 hx2
      rw [show (Int32.ofNat 0 : Int32) = 0 from rfl] at ex2
      have g2' := CT_u (r := 24) (i := 0) (k := 0) (v := Int32.ofNat B) g2 (by decide) (by decide)
      have q2 := g2.1
      generalize tk_e b len P1 = P2 at *
      by_cases n2 : NG b len P2 1 16
      · obtain ⟨c3, e3, f3, g3, v3, -⟩ := ec_num1 (n := n) (o := o) hl g2' n2
        obtain ⟨x3, ex3, fx3, hx3⟩ := em_lays1 (n := m) (o := u) hl hx2 n2 (k := 1) (by decide)
        obtain ⟨R, hRm, hR, hR1, hR4⟩ := NG_of q2 n2
        rw [hR] at v3 ex3 hx3
        rw [show (Int32.ofNat 1 : Int32) = 1 from rfl] at ex3
        have g3' := CT_u (r := 24) (i := 0) (k := 1) (v := Int32.ofNat R) g3 (by decide) (by decide)
        have q3 := g3.1
        generalize tk_e b len P2 = P3 at *
        by_cases n3 : NG b len P3 4 999
        · obtain ⟨c4, e4, f4, g4, v4, -⟩ := ec_num1 (n := n) (o := o) hl g3' n3
          obtain ⟨x4, ex4, fx4, hx4⟩ := em_lays1 (n := m) (o := u) hl hx3 n3 (k := 2) (by decide)
          obtain ⟨V, hVm, hV, hV1, hV4⟩ := NG_of q3 n3
          rw [hV] at v4 ex4 hx4
          rw [show (Int32.ofNat 2 : Int32) = 2 from rfl] at ex4
          have g4' := CT_u (r := 24) (i := 0) (k := 2) (v := Int32.ofNat V) g4 (by decide) (by decide)
          have q4 := g4.1
          generalize tk_e b len P3 = P4 at *
          by_cases n4 : NG b len P4 1 99
          · obtain ⟨c5, e5, f5, g5, v5, -⟩ := ec_num1 (n := n) (o := o) hl g4' n4
            obtain ⟨x5, ex5, fx5, hx5⟩ := em_lays1 (n := m) (o := u) hl hx4 n4 (k := 3) (by decide)
            obtain ⟨W, hWm, hW, hW1, hW4⟩ := NG_of q4 n4
            rw [hW] at v5 ex5 hx5
            rw [show (Int32.ofNat 3 : Int32) = 3 from rfl] at ex5
            have g5' := CT_u (r := 24) (i := 0) (k := 3) (v := Int32.ofNat W) g5 (by decide) (by decide)
            have q5 := g5.1
            generalize tk_e b len P4 = P5 at *
            have ks : KS dc (ev_u3 c5 24 0 3 (Int32.ofNat W)) := KS_t (KS_KC (KC_PF f1)) (KS_t (KS_KC f2) (KS_t (KS_u (by decide)) (KS_t (KS_KC f3) (KS_t (KS_u (by decide)) (KS_t (KS_KC f4) (KS_t (KS_u (by decide)) (KS_t (KS_KC f5) (KS_u (by decide)))))))))
            have kt : KT dr (ev_u3 x5 48 0 3 (Int32.ofNat W)) := KT_t (KT_KR kx1) (KT_t (KT_KR fx2) (KT_t (KT_u (by omega)) (KT_t (KT_KR fx3) (KT_t (KT_u (by omega)) (KT_t (KT_KR fx4) (KT_t (KT_u (by omega)) (KT_t (KT_KR fx5) (KT_u (by omega)))))))))
            by_cases n5 : tk_k b len P5 = 3
            · obtain ⟨c6, e6, f6, g6⟩ := ec_semi1 (n := n) (o := o) hl g5' n5
              obtain ⟨x6, ex6, fx6, hx6⟩ := em_semi1 (n := m) (o := u) hl hx5 n5
              refine .inl ⟨c6, x6, _, B, R, EV_bk (k := 400) ?_, fun t ht => EV_bk (k := 400) ?_, KS_t ks (KS_KC f6), KU_KT (KU_KT ku kt) (KT_KR fx6), g6, hx6, ?_⟩
              · rw [bk_34_0]
                simp (decide := true) only [ev_bv, ev_bi, l0, l1, cond_true, e1, cw, ↓reduceIte, e2, v2, e3, v3, e4, v4, e5, v5, e6, ev_ok]
                rfl
              · rw [bk_151_0, f0, i129]
                simp (decide := true) only [ev_bi, ↓reduceIte, i130, ev_bv, ey, er, rw', ex1, ex2, ex3, ex4, ex5, ex6]
                exact ht
              · have c24 : c6 24 0 = ev_u1 (ev_u1 (ev_u1 (ev_u1 (dc 24 0) 0 (Int32.ofNat B)) 1 (Int32.ofNat R)) 2 (Int32.ofNat V)) 3 (Int32.ofNat W) := by
                  rw [f6.1 24 (by decide) (by decide), u3r, f5.1 24 (by decide) (by decide), u3r, f4.1 24 (by decide) (by decide), u3r, f3.1 24 (by decide) (by decide), u3r, f2.1 24 (by decide) (by decide), f1.1 24 (by decide)]
                have cr : ∀ r, r ≠ 28 → r ≠ 29 → r ≠ 24 → c6 r = dc r := fun r x y w => by
                  rw [f6.1 r x y, u3n w, f5.1 r x y, u3n w, f4.1 r x y, u3n w, f3.1 r x y, u3n w, f2.1 r x y, f1.1 r y]
                have x48 : x6 48 0 = ev_u1 (ev_u1 (ev_u1 (ev_u1 (dr 48 0) 0 (Int32.ofNat B)) 1 (Int32.ofNat R)) 2 (Int32.ofNat V)) 3 (Int32.ofNat W) := by
                  rw [fx6.1 48 (by decide), u3r, fx5.1 48 (by decide), u3r, fx4.1 48 (by decide), u3r, fx3.1 48 (by decide), u3r, fx2.1 48 (by decide), kx1.1 48 (by decide)]
                have xr : ∀ r, r ≠ 44 → r ≠ 48 → x6 r = dr r := fun r x y => by
                  rw [fx6.1 r x, u3n y, fx5.1 r x, u3n y, fx4.1 r x, u3n y, fx3.1 r x, u3n y, fx2.1 r x, kx1.1 r x]
                have x44 : ∀ k, 12 < k → x6 44 0 k = dr 44 0 k := fun k hk => by
                  rw [fx6.2 k (.inr hk), u3n (by decide), fx5.2 k (.inr hk), u3n (by decide), fx4.2 k (.inr hk), u3n (by decide), fx3.2 k (.inr hk), u3n (by decide), fx2.2 k (.inr hk), kx1.2 k (.inr hk)]
                have b1 := (ni_le (a := 1) (by omega) (by omega)).mp hB1
                have b4 := (ni_le (b := 4) (by omega) (by omega)).mp hB4
                have r1 := (ni_le (a := 1) (by omega) (by omega)).mp hR1
                have r16 := (ni_le (b := 16) (by omega) (by omega)).mp hR4
                have v4' := (ni_le (a := 4) (by omega) (by omega)).mp hV1
                have w1' := (ni_le (a := 1) (by omega) (by omega)).mp hW1
                have w99 := (ni_le (b := 99) (by omega) (by omega)).mp hW4
                unfold QS
                unfold CL TC
                rw [c24, x48, xr 49 (by decide) (by decide), xr 50 (by decide) (by decide), x44 13 (by decide), x44 14 (by decide), r13, r14, cr 25 (by decide) (by decide) (by decide), cr 26 (by decide) (by decide) (by decide), cr 31 (by decide) (by decide) (by decide)]
                simp (disch := omega) only [u1n, u1s]
                refine ⟨⟨trivial, trivial, trivial, trivial, fun c hc' => ?_⟩, ⟨⟨trivial, trivial, b1, b4, r1, r16⟩, ?_, ?_, fun c hc' => ?_⟩, ⟨a4, rfl, by decide⟩, ?_, fun k hk => ?_, ?_, ⟨⟨1, by decide, by rw [r49 0 (by decide)]; rfl⟩, by rw [r49 1 (by decide)]; unfold ms_rg us_s; decide, by rw [r49 2 (by decide)]; unfold ms_rg us_s; decide, .inl (by rw [r49 7 (by decide)]; rfl), by rw [r49 3 (by decide)]; unfold ms_rg us_s; decide⟩, fun q hq' => absurd hq' (Nat.not_lt_zero _)⟩
                · obtain ⟨z1, z2⟩ := ac c hc'
                  rw [r48 (4 + 2 * c) (by omega)]
                  exact .inl ⟨z1, z2, rfl⟩
                · rw [ni_t (by omega)]
                  omega
                · rw [ni_t (by omega)]
                  omega
                · rw [r48 (4 + 2 * c) (by omega)]
                  decide
                · refine CS_w (w := pb us_s) (CS_d as (fun r hr' => ?_)) (fun j hj => ?_)
                  · rw [cr r (by omega) (by omega) (by omega)]
                  · show pb (dr 49 0) j = pb us_s j
                    unfold pb
                    by_cases e : j < 8
                    · rw [if_pos e, if_pos e, r49 j e]
                    · rw [if_neg e, if_neg e]
                · exact ⟨fun _ => tb_0 (by omega), fun _ => a31 k hk⟩
                · exact ⟨fun _ => tb_0 (by decide), fun _ => by rw [r49 7 (by decide)]; rfl⟩
            · obtain ⟨c6, e6, f6, y1, y2⟩ := ec_semi0 (n := n) (o := o) hl g5' n5
              obtain ⟨x6, ex6, fx6, y3, y4⟩ := em_semi0 (n := m) (lk := lk) (o := u) hx5 n5
              refine .inr ⟨c6, x6, EV_bk (k := 400) ?_, fun t ht => EV_bk (k := 400) ?_, KS_t ks (KS_KC f6), KU_KT (KU_KT ku kt) (KT_KR fx6), PE_x (x := 1) (by decide) y1 y2 y3 y4⟩
              · rw [bk_34_0]
                simp (decide := true) only [ev_bv, ev_bi, l0, l1, cond_true, e1, cw, ↓reduceIte, e2, v2, e3, v3, e4, v4, e5, v5, e6, ev_ok]
                rfl
              · rw [bk_151_0, f0, i129]
                simp (decide := true) only [ev_bi, ↓reduceIte, i130, ev_bv, ey, er, rw', ex1, ex2, ex3, ex4, ex5, ex6]
                exact ht
          · obtain ⟨c5, e5, f5, y1, y2⟩ := ec_num0 (n := n) (o := o) hl g4' n4
            obtain ⟨x5, ex5, fx5, y3, y4⟩ := em_lays0 (n := m) (lk := lk) (o := u) (x := 3) hx4 n4
            refine .inr ⟨c5, x5, EV_bk (k := 400) ?_, fun t ht => EV_bk (k := 400) ?_, KS_t (KS_KC (KC_PF f1)) (KS_t (KS_KC f2) (KS_t (KS_u (by decide)) (KS_t (KS_KC f3) (KS_t (KS_u (by decide)) (KS_t (KS_KC f4) (KS_t (KS_u (by decide)) (KS_KC f5))))))), KU_KT ku (KT_t (KT_KR kx1) (KT_t (KT_KR fx2) (KT_t (KT_u (by omega)) (KT_t (KT_KR fx3) (KT_t (KT_u (by omega)) (KT_t (KT_KR fx4) (KT_t (KT_u (by omega)) (KT_KR fx5)))))))), PE_n y1 y2 y3 y4⟩
            · rw [bk_34_0]
              simp (decide := true) only [ev_bv, ev_bi, l0, l1, cond_true, e1, cw, ↓reduceIte, e2, v2, e3, v3, e4, v4, e5]
            · rw [bk_151_0, f0, i129]
              simp (decide := true) only [ev_bi, ↓reduceIte, i130, ev_bv, ey, er, rw', ex1, ex2, ex3, ex4, ex5]
              exact ht
        · obtain ⟨c4, e4, f4, y1, y2⟩ := ec_num0 (n := n) (o := o) hl g3' n3
          obtain ⟨x4, ex4, fx4, y3, y4⟩ := em_lays0 (n := m) (lk := lk) (o := u) (x := 2) hx3 n3
          refine .inr ⟨c4, x4, EV_bk (k := 400) ?_, fun t ht => EV_bk (k := 400) ?_, KS_t (KS_KC (KC_PF f1)) (KS_t (KS_KC f2) (KS_t (KS_u (by decide)) (KS_t (KS_KC f3) (KS_t (KS_u (by decide)) (KS_KC f4))))), KU_KT ku (KT_t (KT_KR kx1) (KT_t (KT_KR fx2) (KT_t (KT_u (by omega)) (KT_t (KT_KR fx3) (KT_t (KT_u (by omega)) (KT_KR fx4)))))), PE_n y1 y2 y3 y4⟩
          · rw [bk_34_0]
            simp (decide := true) only [ev_bv, ev_bi, l0, l1, cond_true, e1, cw, ↓reduceIte, e2, v2, e3, v3, e4]
          · rw [bk_151_0, f0, i129]
            simp (decide := true) only [ev_bi, ↓reduceIte, i130, ev_bv, ey, er, rw', ex1, ex2, ex3, ex4]
            exact ht
      · obtain ⟨c3, e3, f3, y1, y2⟩ := ec_num0 (n := n) (o := o) hl g2' n2
        obtain ⟨x3, ex3, fx3, y3, y4⟩ := em_lays0 (n := m) (lk := lk) (o := u) (x := 1) hx2 n2
        refine .inr ⟨c3, x3, EV_bk (k := 400) ?_, fun t ht => EV_bk (k := 400) ?_, KS_t (KS_KC (KC_PF f1)) (KS_t (KS_KC f2) (KS_t (KS_u (by decide)) (KS_KC f3))), KU_KT ku (KT_t (KT_KR kx1) (KT_t (KT_KR fx2) (KT_t (KT_u (by omega)) (KT_KR fx3)))), PE_n y1 y2 y3 y4⟩
        · rw [bk_34_0]
          simp (decide := true) only [ev_bv, ev_bi, l0, l1, cond_true, e1, cw, ↓reduceIte, e2, v2, e3]
        · rw [bk_151_0, f0, i129]
          simp (decide := true) only [ev_bi, ↓reduceIte, i130, ev_bv, ey, er, rw', ex1, ex2, ex3]
          exact ht
    · obtain ⟨c2, e2, f2, y1, y2⟩ := ec_num0 (n := n) (o := o) hl g1 n1
      obtain ⟨x2, ex2, fx2, y3, y4⟩ := em_lays0 (n := m) (lk := lk) (o := u) (x := 0) hx1 n1
      refine .inr ⟨c2, x2, EV_bk (k := 400) ?_, fun t ht => EV_bk (k := 400) ?_, KS_t (KS_KC (KC_PF f1)) (KS_KC f2), KU_KT ku (KT_t (KT_KR kx1) (KT_KR fx2)), PE_n y1 y2 y3 y4⟩
      · rw [bk_34_0]
        simp (decide := true) only [ev_bv, ev_bi, l0, l1, cond_true, e1, cw, ↓reduceIte, e2]
      · rw [bk_151_0, f0, i129]
        simp (decide := true) only [ev_bi, ↓reduceIte, i130, ev_bv, ey, er, rw', ex1, ex2]
        exact ht
  · have z' := fun v => z ((tk_is2 (k := 0) (by decide)).mpr v)
    have cw := cw.2 z
    have rw' := rw'.2 z'
    obtain ⟨x1, ex1, fx1, y3, y4⟩ := em_starts0 (n := m) (lk := lk) (o := u) (x := 1) hr
    refine .inr ⟨ev_u3 (ev_u3 c1 28 0 5 1) 28 0 6 (c1 29 0 4), x1, EV_bk (k := 400) ?_, fun t ht => EV_bk (k := 400) ?_, KS_t (KS_KC (KC_PF f1)) (KS_KC (KC_t KC_28 KC_28)), KU_KT ku (KT_KR fx1), PE_x (x := 1) (by decide) (by rw [u3x (by decide), u3s]) (by rw [u3s, s1]) y3 y4⟩
    · rw [bk_34_0]
      simp (decide := true) only [ev_bv, ev_bi, l0, l1, cond_true, e1, cw, ↓reduceIte, ec_fail hl, ev_ok]
      rfl
    · rw [bk_151_0, f0, i129]
      simp (decide := true) only [ev_bi, ↓reduceIte, i130, ev_bv, ey, er, rw', ex1]
      exact ht
