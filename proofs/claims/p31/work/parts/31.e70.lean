/-! THE PROGRAM AGAINST THE REFERENCE, 56: a request of the text is read -/
theorem tk_ge2 {b : Nat → Int32} {len p : Nat} (h : p ≤ len) : p ≤ tk_e b len p := Nat.le_trans (tk_sle h).1 (tk_ele h).1
theorem st_ask {lk : Nat → Nat → Nat → Bool} {b : Nat → Int32} {len p B R C : Nat} {dc dr : Nat → Nat → Nat → Int32} (hl : LK lk) (hc : CT dc b len (tk_e b len p)) (h4 : dc 29 0 4 = Int32.ofNat (tk_s b len p)) (hr : RH dr b len p) (hq : QS dc dr B R C) :
    ST (37, 0, [ev_R 28 0], [], 0, 0) (146, 0, [ev_R 44 0], [], 0, 0) lk b len (tk_e b len p) B R dc dr := by
  intro n o m u
  have l1 : lk 28 0 1 = true := hl 28 0 1 rfl (by decide) (by decide)
  have l2 : lk 28 0 2 = true := hl 28 0 2 rfl (by decide) (by decide)
  have l3 : lk 0 0 8 = true := hl 0 0 8 rfl (by decide) (by decide)
  have l4 : lk 44 0 15 = true := hl 44 0 15 rfl (by decide) (by decide)
  have l5 : lk 44 0 17 = true := hl 44 0 17 rfl (by decide) (by decide)
  obtain ⟨⟨t0, t1, b1, b4, r1, r16⟩, -⟩ := id hq.2.1
  obtain ⟨x4, y14, hC⟩ := hq.2.2.1
  have hB : dc 24 0 0 = Int32.ofNat B := hq.1.1.trans t0
  have hR : dc 24 0 1 = Int32.ofNat R := hq.1.2.1.trans t1
  by_cases zC : C < 20
  · have cC : Int32.ofNat C < 20 := (ni_lt (b := 20) (by omega) (by omega)).mpr zC
    obtain ⟨rA, eA, fA, gA⟩ := em_starts1 (n := m) (o := u) (x := 4) hl hr
    have kA := KR_PF fA
    by_cases g1 : NG b len (tk_e b len p) 0 999
    · obtain ⟨d1, e1, f1, c1, v1, -⟩ := ec_num1 (n := n) (o := o) hl hc g1
      obtain ⟨ra, ea, fa, ga, va⟩ := em_num1 (n := m) (o := u) hl gA g1
      have d1B : d1 24 0 0 = Int32.ofNat B := by rw [f1.1 24 (by decide) (by decide), hB]
      have ra14 : ra 44 0 14 = Int32.ofNat C := by rw [fa.2 14 (by decide), kA.2 14 (by decide), y14]
      have raB : ra 48 0 0 = Int32.ofNat B := by rw [fa.1 48 (by decide), kA.1 48 (by decide), t0]
      have ga' : RH (ev_u3 ra 50 0 (3 * C + 2) (tk_n b len (tk_e b len p))) b len (tk_e b len (tk_e b len p)) := RH_47 ga (u3n (by decide)) (fun k _ => by rw [u3n (by decide)])
      have i2 : Int32.ofNat (3 * C) + 2 = Int32.ofNat (3 * C + 2) := by rw [Int32.ofNat_add]; rfl
      have i1 : Int32.ofNat (3 * C) + 1 = Int32.ofNat (3 * C + 1) := by rw [Int32.ofNat_add]; rfl
      have i0 : (3 : Int32) * Int32.ofNat C = Int32.ofNat (3 * C) := by rw [Int32.ofNat_mul]; rfl
      have p2 := c1.1
      have o1 := tk_ge2 (b := b) hc.1
      generalize tk_n b len (tk_e b len p) = W1 at *
      generalize tk_e b len (tk_e b len p) = P2 at *
      by_cases g2 : NG b len P2 0 (Int32.ofNat B - 1)
      · obtain ⟨d2, e2, f2, c2, v2, -⟩ := ec_num1 (n := n) (o := o) hl c1 g2
        obtain ⟨rb, eb, fb, gb, vb⟩ := em_num1 (n := m) (o := u) hl ga' g2
        obtain ⟨w2, hw2m, hw2, -, hw2'⟩ := NG_of p2 g2
        have hwB : w2 < B := (ni_lt (by omega) (by omega)).mp ((i32_pred (by omega)).mp hw2')
        rw [hw2] at v2 vb
        have d2R : d2 24 0 1 = Int32.ofNat R := by rw [f2.1 24 (by decide) (by decide), f1.1 24 (by decide) (by decide), hR]
        have rb14 : rb 44 0 14 = Int32.ofNat C := by rw [fb.2 14 (by decide), u3n (by decide), ra14]
        have rbR : rb 48 0 1 = Int32.ofNat R := by rw [fb.1 48 (by decide), u3n (by decide), fa.1 48 (by decide), kA.1 48 (by decide), t1]
        have gb' : RH (ev_u3 rb 50 0 (3 * C) (Int32.ofNat w2)) b len (tk_e b len P2) := RH_47 gb (u3n (by decide)) (fun k _ => by rw [u3n (by decide)])
        have p3 := c2.1
        have o2 := tk_ge2 (b := b) p2
        generalize tk_e b len P2 = P3 at *
        by_cases g3 : NG b len P3 0 (Int32.ofNat R - 1)
        · obtain ⟨d3, e3, f3, c3, v3, -⟩ := ec_num1 (n := n) (o := o) hl c2 g3
          obtain ⟨rc, ec, fc, gc, vc⟩ := em_num1 (n := m) (o := u) hl gb' g3
          obtain ⟨w3, hw3m, hw3, -, hw3'⟩ := NG_of p3 g3
          have hwR : w3 < R := (ni_lt (by omega) (by omega)).mp ((i32_pred (by omega)).mp hw3')
          rw [hw3] at v3 vc
          have rc14 : rc 44 0 14 = Int32.ofNat C := by rw [fc.2 14 (by decide), u3n (by decide), rb14]
          have p4 := c3.1
          have o3 := tk_ge2 (b := b) p3
          generalize tk_e b len P3 = P4 at *
          have d3o : ∀ r, r ≠ 28 → r ≠ 29 → d3 r = dc r := fun r x y => by rw [f3.1 r x y, f2.1 r x y, f1.1 r x y]
          have hs : CS d3 0 (pw (dr 49 0) (dr 50 0) C) C 0 := CS_d hq.2.2.2.1 (fun r hr' => by rw [d3o r (by omega) (by omega)])
          have ad := ec_add (n := n) (o := o) (b := Int32.ofNat w2) (r := Int32.ofNat w3) (tm := W1) hl (i := 0) (by decide) hs (by omega)
          have as := CS_add (b := Int32.ofNat w2) (r := Int32.ofNat w3) (tm := W1) hs (by omega)
          have fr := FR_add (d := d3) (i := 0) (C := C) (b := Int32.ofNat w2) (r := Int32.ofNat w3) (tm := W1)
          generalize mc_addq d3 0 C (Int32.ofNat w2) (Int32.ofNat w3) W1 = d4 at *
          have d4o : ∀ r i, 24 ≤ r ∨ i ≠ 0 → d4 r i = d3 r i := fr
          have d44 : d4 24 0 4 = Int32.ofNat C := by rw [d4o 24 0 (by omega), d3o 24 (by decide) (by decide), x4]
          have k4 : KS d3 d4 := ⟨fun r i x _ _ _ => d4o r i (by omega), fun k _ => by rw [d4o 29 0 (by omega)]⟩
          have rc48 : rc 48 = dr 48 := by rw [fc.1 48 (by decide), u3n (by decide), fb.1 48 (by decide), u3n (by decide), fa.1 48 (by decide), kA.1 48 (by decide)]
          have rc49 : rc 49 = dr 49 := by rw [fc.1 49 (by decide), u3n (by decide), fb.1 49 (by decide), u3n (by decide), fa.1 49 (by decide), kA.1 49 (by decide)]
          have rc50 : rc 50 0 = ev_u1 (ev_u1 (dr 50 0) (3 * C + 2) W1) (3 * C) (Int32.ofNat w2) := by rw [fc.1 50 (by decide), u3r, fb.1 50 (by decide), u3r, fa.1 50 (by decide), kA.1 50 (by decide)]
          have rc13 : rc 44 0 13 = dr 44 0 13 := by rw [fc.2 13 (by decide), u3n (by decide), fb.2 13 (by decide), u3n (by decide), fa.2 13 (by decide), kA.2 13 (by decide)]
          refine .inl ⟨ev_u3 d4 24 0 4 (Int32.ofNat (C + 1)), ev_u3 (ev_u3 rc 50 0 (3 * C + 1) (Int32.ofNat w3)) 44 0 14 (Int32.ofNat (C + 1)), P4, C + 1, EV_bk (k := 400) ?_, EV_bk (k := 400) ?_, KS_t (KS_KC f1) (KS_t (KS_KC f2) (KS_t (KS_KC f3) (KS_t k4 (KS_u (by decide))))), KT_t (KT_KR kA) (KT_t (KT_KR fa) (KT_t (KT_u (by omega)) (KT_t (KT_KR fb) (KT_t (KT_u (by omega)) (KT_t (KT_KR fc) (KT_t (KT_u (by omega)) (KT_44 (by decide) (by decide)))))))), ?_, ?_, ?_, by omega⟩
          · rw [bk_37_0]
            simp (decide := true) only [ev_bi, l1, l2, l3, cond_true, x4, cC, e1, ↓reduceIte, d1B, e2, d2R, e3, v1, v2, v3, ad, d44, ni_1]
          · rw [bk_146_0]
            simp (decide := true) only [ev_bi, l4, l5, cond_true, y14, cC, eA, ea, ↓reduceIte, ra14, i0, i1, i2, ni_in (n := 3 * C + 2) (N := 60) (by omega) (by omega), ni_c (n := 3 * C + 2) (by omega), ni_in (n := 3 * C + 1) (N := 60) (by omega) (by omega), ni_c (n := 3 * C + 1) (by omega), ni_in (n := 3 * C) (N := 60) (by omega) (by omega), ni_c (n := 3 * C) (by omega), va, raB, eb, rb14, vb, rbR, ec, rc14, vc, ni_1]
          · refine CT_u ?_ (by decide) (by decide)
            obtain ⟨z1, z2, z3, z4, z5⟩ := c3
            exact ⟨z1, z2, by rw [d4o 29 0 (by omega), z3], fun x hx => by rw [d4o 30 0 (by omega), z4 x hx], by rw [d4o 29 0 (by omega), z5]⟩
          · exact RH_47 gc (by rw [u3n (by decide), u3n (by decide)]) (fun k hk => by rw [u3x (by omega), u3n (by decide)])
          · obtain ⟨q1, q2, q3, q6, q7, q8, q9, q10⟩ := hq
            have n50 : ev_u3 (ev_u3 rc 50 0 (3 * C + 1) (Int32.ofNat w3)) 44 0 14 (Int32.ofNat (C + 1)) 50 0 = ev_u1 (ev_u1 (ev_u1 (dr 50 0) (3 * C + 2) W1) (3 * C) (Int32.ofNat w2)) (3 * C + 1) (Int32.ofNat w3) := by rw [u3n (by decide), u3r, rc50]
            have n48 : ev_u3 (ev_u3 rc 50 0 (3 * C + 1) (Int32.ofNat w3)) 44 0 14 (Int32.ofNat (C + 1)) 48 = dr 48 := by rw [u3n (by decide), u3n (by decide), rc48]
            have n49 : ev_u3 (ev_u3 rc 50 0 (3 * C + 1) (Int32.ofNat w3)) 44 0 14 (Int32.ofNat (C + 1)) 49 = dr 49 := by rw [u3n (by decide), u3n (by decide), rc49]
            have nc : ∀ r, 24 < r → r ≠ 28 → r ≠ 29 → ev_u3 d4 24 0 4 (Int32.ofNat (C + 1)) r 0 = dc r 0 := fun r h x y => by rw [u3n (by omega), d4o r 0 (by omega), d3o r x y]
            unfold QS
            rw [n48, n49, n50, u3s, u3s, u3x (by decide), u3n (r' := 44) (r := 50) (by decide), rc13, nc 31 (by decide) (by decide) (by decide)]
            refine ⟨?_, q2, ⟨rfl, rfl, by omega⟩, ?_, q7, q8, q9, fun q hq' => ?_⟩
            · obtain ⟨z0, z1, z2, z3, z4⟩ := q1
              refine ⟨?_, ?_, ?_, ?_, ?_⟩
              · rw [u3x (by decide), d4o 24 0 (by omega), d3o 24 (by decide) (by decide), z0]
              · rw [u3x (by decide), d4o 24 0 (by omega), d3o 24 (by decide) (by decide), z1]
              · rw [u3x (by decide), d4o 24 0 (by omega), d3o 24 (by decide) (by decide), z2]
              · rw [u3x (by decide), d4o 24 0 (by omega), d3o 24 (by decide) (by decide), z3]
              · rw [nc 25 (by decide) (by decide) (by decide), nc 26 (by decide) (by decide) (by decide)]
                exact z4
            · have ep : pw (dr 49 0) (ev_u1 (ev_u1 (ev_u1 (dr 50 0) (3 * C + 2) W1) (3 * C) (Int32.ofNat w2)) (3 * C + 1) (Int32.ofNat w3)) (C + 1) = ms_addq (pw (dr 49 0) (dr 50 0) C) C (Int32.ofNat w2) (Int32.ofNat w3) W1 := by
                show ms_addq _ C _ _ _ = _
                rw [pw_a (a := dr 50 0) C (fun j hj => by rw [u1n (by omega), u1n (by omega), u1n (by omega)])]
                simp (disch := omega) only [u1n, u1s]
              rw [ep]
              exact CS_d as (fun r hr' => by rw [u3n (by omega)])
            · by_cases e : q = C
              · subst e
                simp (disch := omega) only [u1n, u1s]
                exact ⟨⟨w2, hwB, rfl⟩, ⟨w3, hwR, rfl⟩⟩
              · rw [u1n (by omega), u1n (by omega), u1n (by omega), u1n (by omega), u1n (by omega), u1n (by omega)]
                exact q10 q (by omega)
        · obtain ⟨d3, e3, f3, x1, x2⟩ := ec_num0 (n := n) (o := o) hl c2 g3
          obtain ⟨rc, ec, fc, y1, y2⟩ := em_num0 (n := m) (lk := lk) (o := u) gb' g3
          refine .inr ⟨d3, rc, EV_bk (k := 400) ?_, EV_bk (k := 400) ?_, KS_t (KS_KC f1) (KS_t (KS_KC f2) (KS_KC f3)), KT_t (KT_KR kA) (KT_t (KT_KR fa) (KT_t (KT_u (by omega)) (KT_t (KT_KR fb) (KT_t (KT_u (by omega)) (KT_KR fc))))), PE_n x1 x2 y1 y2⟩
          · rw [bk_37_0]
            simp (decide := true) only [ev_bi, l1, l2, l3, cond_true, x4, cC, e1, ↓reduceIte, d1B, e2, d2R, e3]
          · rw [bk_146_0]
            simp (decide := true) only [ev_bi, l4, l5, cond_true, y14, cC, eA, ea, ↓reduceIte, ra14, i0, i1, i2, ni_in (n := 3 * C + 2) (N := 60) (by omega) (by omega), ni_c (n := 3 * C + 2) (by omega), ni_in (n := 3 * C + 1) (N := 60) (by omega) (by omega), ni_c (n := 3 * C + 1) (by omega), ni_in (n := 3 * C) (N := 60) (by omega) (by omega), ni_c (n := 3 * C) (by omega), va, raB, eb, rb14, vb, rbR, ec]
      · obtain ⟨d2, e2, f2, x1, x2⟩ := ec_num0 (n := n) (o := o) hl c1 g2
        obtain ⟨rb, eb, fb, y1, y2⟩ := em_num0 (n := m) (lk := lk) (o := u) ga' g2
        refine .inr ⟨d2, rb, EV_bk (k := 400) ?_, EV_bk (k := 400) ?_, KS_t (KS_KC f1) (KS_KC f2), KT_t (KT_KR kA) (KT_t (KT_KR fa) (KT_t (KT_u (by omega)) (KT_KR fb))), PE_n x1 x2 y1 y2⟩
        · rw [bk_37_0]
          simp (decide := true) only [ev_bi, l1, l2, l3, cond_true, x4, cC, e1, ↓reduceIte, d1B, e2]
        · rw [bk_146_0]
          simp (decide := true) only [ev_bi, l4, l5, cond_true, y14, cC, eA, ea, ↓reduceIte, ra14, i0, i1, i2, ni_in (n := 3 * C + 2) (N := 60) (by omega) (by omega), ni_c (n := 3 * C + 2) (by omega), va, raB, eb]
    · obtain ⟨d1, e1, f1, x1, x2⟩ := ec_num0 (n := n) (o := o) hl hc g1
      obtain ⟨ra, ea, fa, y1, y2⟩ := em_num0 (n := m) (lk := lk) (o := u) gA g1
      refine .inr ⟨d1, ra, EV_bk (k := 400) ?_, EV_bk (k := 400) ?_, KS_KC f1, KT_t (KT_KR kA) (KT_KR fa), PE_n x1 x2 y1 y2⟩
      · rw [bk_37_0]
        simp (decide := true) only [ev_bi, l1, cond_true, x4, cC, e1, ↓reduceIte]
      · rw [bk_146_0]
        simp (decide := true) only [ev_bi, y14, cC, eA, ea, ↓reduceIte]
  · have cC : ¬ Int32.ofNat C < 20 := fun v => zC ((ni_lt (b := 20) (by omega) (by omega)).mp v)
    obtain ⟨rA, eA, fA, y1, y2⟩ := em_starts0 (n := m) (lk := lk) (o := u) (x := 4) hr
    refine .inr ⟨ev_u3 (ev_u3 dc 28 0 5 4) 28 0 6 (dc 29 0 4), rA, EV_bk (k := 400) ?_, EV_bk (k := 400) ?_, KS_KC (KC_t KC_28 KC_28), KT_KR fA, PE_x (x := 4) (by decide) (by rw [u3x (by decide), u3s]) (by rw [u3s, h4]) y1 y2⟩
    · rw [bk_37_0]
      simp (decide := true) only [l1, cond_true, x4, cC, ↓reduceIte, ec_fail hl, ev_bi, ev_ok]
      rfl
    · rw [bk_146_0]
      simp (decide := true) only [ev_bi, y14, cC, eA, ↓reduceIte]
