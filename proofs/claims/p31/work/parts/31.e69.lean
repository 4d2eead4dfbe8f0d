/-! THE PROGRAM AGAINST THE REFERENCE, 55: a weak row is read -/
theorem QS_K {dc dr dc' dr' : Nat → Nat → Nat → Int32} {B R C : Nat} (h : QS dc dr B R C) (hc : KC dc dc') (hr : KR dr dr') : QS dc' dr' B R C := by
  obtain ⟨q1, q2, ⟨q3, q4, q5⟩, q6, q7, q8, q9, q10⟩ := h
  have c := fun r (h1 : r ≠ 28) (h2 : r ≠ 29) => hc.1 r h1 h2
  have e48 := hr.1 48 (by decide)
  have e49 := hr.1 49 (by decide)
  have e50 := hr.1 50 (by decide)
  refine ⟨by rw [e48]; exact CL_d q1 (by rw [c 24 (by decide) (by decide)]) (by rw [c 25 (by decide) (by decide)]) (by rw [c 26 (by decide) (by decide)]), by rw [e48]; exact q2, ⟨by rw [c 24 (by decide) (by decide), q3], by rw [hr.2 14 (by decide), q4], q5⟩, ?_, ?_, ?_, ?_, ?_⟩
  · rw [e49, e50]
    exact CS_d q6 (fun r hr' => by rw [c r (by omega) (by omega)])
  · rw [hr.2 13 (by decide), c 31 (by decide) (by decide)]
    exact q7
  · rw [hr.2 13 (by decide), e49]
    exact q8
  · rw [e49]
    exact q9
  · rw [e50]
    exact q10
/-- both take one part of the text, and go on alike or fail alike -/
def ST (fc fr : ev_F) (lk : Nat → Nat → Nat → Bool) (b : Nat → Int32) (len q0 B R : Nat) (dc dr : Nat → Nat → Nat → Int32) : Prop := ∀ n o m u,
  (∃ dc' dr' q C, EV fc (n, lk, dc, o) = some (.inl (some (ev_I 1)), (n, lk, dc', o)) ∧ EV fr (m, lk, dr, u) = some (.inl (some (ev_I 1)), (m, lk, dr', u)) ∧ KS dc dc' ∧ KT dr dr' ∧ CT dc' b len q ∧ RH dr' b len q ∧ QS dc' dr' B R C ∧ q0 ≤ q) ∨
  ∃ dc' dr', EV fc (n, lk, dc, o) = some (.inl (some (ev_I 0)), (n, lk, dc', o)) ∧ EV fr (m, lk, dr, u) = some (.inl (some (ev_I 0)), (m, lk, dr', u)) ∧ KS dc dc' ∧ KT dr dr' ∧ PE dc' dr'
theorem PE_n {dc dr : Nat → Nat → Nat → Int32} {b : Nat → Int32} {len p : Nat} (h1 : dc 28 0 5 = NE b len p) (h2 : dc 28 0 6 = Int32.ofNat (tk_s b len p)) (h3 : dr 44 0 10 = NE b len p) (h4 : dr 44 0 11 = Int32.ofNat (tk_s b len p)) : PE dc dr :=
  ⟨by rw [h3]; exact NE_0, by rw [h1, h3], by rw [h2, h4]⟩
theorem PE_x {dc dr : Nat → Nat → Nat → Int32} {x : Int32} {s : Nat} (hx : x ≠ 0) (h1 : dc 28 0 5 = x) (h2 : dc 28 0 6 = Int32.ofNat s) (h3 : dr 44 0 10 = x) (h4 : dr 44 0 11 = Int32.ofNat s) : PE dc dr :=
  ⟨by rw [h3]; exact hx, by rw [h1, h3], by rw [h2, h4]⟩
theorem RH_47 {d d' : Nat → Nat → Nat → Int32} {b : Nat → Int32} {len p : Nat} (h : RH d b len p) (hf : d' 47 = d 47) (h5 : ∀ k, k < 12 → d' 44 0 k = d 44 0 k) : RH d' b len p := by
  obtain ⟨h1, ⟨t1, t2, t3⟩, ⟨r1, r2, r3, r4⟩, h4, h4'⟩ := h
  exact ⟨h1, ⟨t1, by rw [h5 5 (by decide), t2], fun x hx => by rw [hf]; exact t3 x hx⟩, ⟨by rw [h5 6 (by decide), r1], by rw [h5 7 (by decide), r2], by rw [h5 8 (by decide), r3], fun v => by rw [h5 9 (by decide), r4 v]⟩, by rw [h5 10 (by decide), h4], by rw [h5 11 (by decide), h4']⟩
theorem CT_u {d : Nat → Nat → Nat → Int32} {b : Nat → Int32} {len p r i k : Nat} {v : Int32} (h : CT d b len p) (h1 : 29 ≠ r) (h2 : 30 ≠ r) : CT (ev_u3 d r i k v) b len p := by
  obtain ⟨a1, a2, a3, a4, a5⟩ := h
  exact ⟨a1, a2, by rw [u3n h1, a3], fun x hx => by rw [u3n h2, a4 x hx], by rw [u3n h1, a5]⟩
section EC43
variable {n : Nat} {lk : Nat → Nat → Nat → Bool} {d : Nat → Nat → Nat → Int32} {o : ev_W}
theorem em_lays1 (hl : LK lk) {b : Nat → Int32} {len p k : Nat} {lo hi : Int32} (h : RH d b len p) (g : NG b len p lo hi) (hk : k < 132) :
    ∃ d', EV (142, 0, [ev_R 44 0, ev_I (Int32.ofNat k), ev_I lo, ev_I hi], [], 0, 0) (n, lk, d, o) = some (.inl (some (ev_I 1)), (n, lk, ev_u3 d' 48 0 k (tk_n b len p), o)) ∧ KR d d' ∧ RH (ev_u3 d' 48 0 k (tk_n b len p)) b len (tk_e b len p) := by
  obtain ⟨d', e, f, g, h12⟩ := em_num1 (n := n) (o := o) hl h g
  refine ⟨d', EV_bk (k := 400) ?_, f, RH_47 g (u3n (by decide)) (fun k' _ => by rw [u3n (by decide)])⟩
  rw [bk_142_0, e]
  simp (decide := true) only [ev_bi, ↓reduceIte, hl 44 0 15 rfl (by decide) (by decide), cond_true, ni_in (n := k) (N := 132) (by omega) (by omega), ni_c (n := k) (by omega), h12]
theorem em_lays0 {b : Nat → Int32} {len p : Nat} {x lo hi : Int32} (h : RH d b len p) (g : ¬ NG b len p lo hi) :
    ∃ d', EV (142, 0, [ev_R 44 0, ev_I x, ev_I lo, ev_I hi], [], 0, 0) (n, lk, d, o) = some (.inl (some (ev_I 0)), (n, lk, d', o)) ∧ KR d d' ∧ d' 44 0 10 = NE b len p ∧ d' 44 0 11 = Int32.ofNat (tk_s b len p) := by
  obtain ⟨d', e, f⟩ := em_num0 (n := n) (lk := lk) (o := o) h g
  refine ⟨d', EV_bk (k := 400) ?_, f⟩
  rw [bk_142_0, e]
  simp (decide := true) only [ev_bi, ↓reduceIte]
end EC43
theorem st_weak {lk : Nat → Nat → Nat → Bool} {b : Nat → Int32} {len p B R C : Nat} {dc dr : Nat → Nat → Nat → Int32} (hl : LK lk) (hc : CT dc b len (tk_e b len p)) (hr : RH dr b len p) (hq : QS dc dr B R C) :
    ST (36, 0, [ev_R 28 0], [], 0, 0) (145, 0, [ev_R 44 0], [], 0, 0) lk b len (tk_e b len p) B R dc dr := by
  intro n o m u
  have l1 : lk 28 0 1 = true := hl 28 0 1 rfl (by decide) (by decide)
  have l2 : lk 24 0 5 = true := hl 24 0 5 rfl (by decide) (by decide)
  have l3 : lk 24 0 6 = true := hl 24 0 6 rfl (by decide) (by decide)
  have l4 : lk 44 0 15 = true := hl 44 0 15 rfl (by decide) (by decide)
  obtain ⟨⟨t0, t1, b1, b4, r1, r16⟩, ⟨t2, t2'⟩, t3, t4⟩ := id hq.2.1
  have hB : dc 24 0 0 = Int32.ofNat B := hq.1.1.trans t0
  have hR : dc 24 0 1 = Int32.ofNat R := hq.1.2.1.trans t1
  obtain ⟨rA, eA, fA, gA⟩ := em_next (n := m) (o := u) hl hr
  have kA := KR_PF fA
  have cA0 : rA 48 0 0 = Int32.ofNat B := by rw [kA.1 48 (by decide), t0]
  by_cases g1 : NG b len (tk_e b len p) 0 (Int32.ofNat B - 1)
  · obtain ⟨d1, e1, f1, c1, v1, s1⟩ := ec_num1 (n := n) (o := o) hl hc g1
    obtain ⟨ra, ea, fa, ga, va⟩ := em_num1 (n := m) (o := u) hl gA g1
    obtain ⟨w1, hw1m, hw1, -, hw1'⟩ := NG_of hc.1 g1
    have hwB : w1 < B := by
      have := (i32_pred (by omega)).mp hw1'
      exact (ni_lt (by omega) (by omega)).mp this
    rw [hw1] at v1 va
    have d1R : d1 24 0 1 = Int32.ofNat R := by rw [f1.1 24 (by decide) (by decide), hR]
    have raR : ra 48 0 1 = Int32.ofNat R := by rw [fa.1 48 (by decide), kA.1 48 (by decide), t1]
    have p2 := c1.1
    generalize hp2 : tk_e b len (tk_e b len p) = P2 at *
    by_cases g2 : NG b len P2 0 (Int32.ofNat R - 1)
    · obtain ⟨d2, e2, f2, c2, v2, s2⟩ := ec_num1 (n := n) (o := o) hl c1 g2
      obtain ⟨rb, eb, fb, gb, vb⟩ := em_num1 (n := m) (o := u) hl ga g2
      obtain ⟨w2, hw2m, hw2, -, hw2'⟩ := NG_of p2 g2
      have hwR : w2 < R := by
        have := (i32_pred (by omega)).mp hw2'
        exact (ni_lt (by omega) (by omega)).mp this
      have ra8 : ra 44 0 8 = 2 := by rw [ga.2.2.1.2.2.1, g2.1]
      have ra9 : ra 44 0 9 = Int32.ofNat w2 := by rw [ga.2.2.1.2.2.2 g2.1]; exact hw2
      have rlt : Int32.ofNat w2 < Int32.ofNat R := (ni_lt (by omega) (by omega)).mpr hwR
      rw [hw2] at v2 vb
      have hcell : 16 * w1 + w2 < 64 := by omega
      have ra48 : ra 48 0 (4 + 2 * (16 * w1 + w2)) = dr 48 0 (4 + 2 * (16 * w1 + w2)) := by rw [fa.1 48 (by decide), kA.1 48 (by decide)]
      have d225 : d2 25 0 (16 * w1 + w2) = dc 25 0 (16 * w1 + w2) := by rw [f2.1 25 (by decide) (by decide), f1.1 25 (by decide) (by decide)]
      have ecell := @ec_cellOf w1 w2 (n, lk, d2, o)
      have p3 := c2.1
      generalize hp3 : tk_e b len P2 = P3 at *
      by_cases hz : 0 < dr 48 0 (4 + 2 * (16 * w1 + w2))
      · -- told twice
        have d2n : ¬ dc 25 0 (16 * w1 + w2) = -1 := by
          rcases hq.1.2.2.2.2 (16 * w1 + w2) hcell with ⟨-, -, z⟩ | ⟨z, -, -⟩
          · rw [z] at hz
            exact absurd hz (by decide)
          · intro v
            rw [← z, v] at hz
            exact absurd hz (by decide)
        refine .inr ⟨ev_u3 (ev_u3 d2 28 0 5 2) 28 0 6 (d2 29 0 4), ev_u3 (ev_u3 ra 44 0 10 2) 44 0 11 (ra 44 0 6), EV_bk (k := 400) ?_, EV_bk (k := 400) ?_, KS_t (KS_KC f1) (KS_t (KS_KC f2) (KS_KC (KC_t KC_28 KC_28))), KT_t (KT_KR kA) (KT_t (KT_KR fa) (KT_t (KT_44 (by decide) (by decide)) (KT_44 (by decide) (by decide)))), ?_⟩
        · rw [bk_36_0]
          simp (decide := true) only [ev_bi, l1, l2, l3, cond_true, hB, e1, ↓reduceIte, d1R, e2, v1, v2, ecell, ni_in (n := 16 * w1 + w2) (N := 64) (by omega) (by omega), ni_c (n := 16 * w1 + w2) (by omega), d225, d2n, ec_fail hl, ev_ok]
          rfl
        · rw [bk_145_0, eA]
          simp (decide := true) only [ev_bv, ev_bi, l4, cond_true, cA0, ea, ↓reduceIte, ra8, ra9, raR, rlt, va, ni_K, ni_in (n := 4 + 2 * (16 * w1 + w2)) (N := 132) (by omega) (by omega), ni_c (n := 4 + 2 * (16 * w1 + w2)) (by omega), ra48, Int32.not_le.mpr hz, em_fails ga.2.2.2.1, ev_ok]
          rfl
        · exact PE_x (x := 2) (s := tk_s b len P2) (by decide) (by rw [u3x (by decide), u3s]) (by rw [u3s, s2]) (by rw [u3x (by decide), u3s]) (by rw [u3s, ga.2.2.1.1])
      · -- not yet told
        have hz' : dr 48 0 (4 + 2 * (16 * w1 + w2)) ≤ 0 := Int32.not_lt.mp hz
        have d2n : dc 25 0 (16 * w1 + w2) = -1 := by
          rcases hq.1.2.2.2.2 (16 * w1 + w2) hcell with ⟨z, -, -⟩ | ⟨-, -, z⟩
          · exact z
          · exact absurd z hz
        by_cases g3 : NG b len P3 1 999
        · obtain ⟨d3, e3, f3, c3, v3, -⟩ := ec_num1 (n := n) (o := o) hl c2 g3
          obtain ⟨rc, ec, fc, gc⟩ := em_lays1 (n := m) (o := u) hl gb g3 (k := 4 + 2 * (16 * w1 + w2)) (by omega)
          obtain ⟨w3, hw3m, hw3, hw3', -⟩ := NG_of p3 g3
          rw [hw3] at v3 ec gc
          have c3' := CT_u (r := 25) (i := 0) (k := 16 * w1 + w2) (v := Int32.ofNat w3) c3 (by decide) (by decide)
          have p4 := c3.1
          generalize hp4 : tk_e b len P3 = P4 at *
          by_cases g4 : NG b len P4 0 999
          · obtain ⟨d4, e4, f4, c4, v4, -⟩ := ec_num1 (n := n) (o := o) hl c3' g4
            obtain ⟨rd, ed, fd, gd⟩ := em_lays1 (n := m) (o := u) hl gc g4 (k := 4 + 2 * (16 * w1 + w2) + 1) (by omega)
            obtain ⟨w4, hw4m, hw4, -, -⟩ := NG_of p4 g4
            rw [hw4] at v4 ed gd
            have p5 := c4.1
            generalize hp5 : tk_e b len P4 = P5 at *
            have le2 := (tk_ele (b := b) hc.1).2.1
            have q12 := (tk_ele (b := b) hc.1).1
            have q34 := (tk_sle (b := b) hc.1).1
            have dc4 : ∀ r, r ≠ 28 → r ≠ 29 → r ≠ 25 → d4 r = dc r := fun r x y z => by
              rw [f4.1 r x y, u3n z, f3.1 r x y, f2.1 r x y, f1.1 r x y]
            have d425 : d4 25 0 = ev_u1 (dc 25 0) (16 * w1 + w2) (Int32.ofNat w3) := by
              rw [f4.1 25 (by decide) (by decide), u3r, f3.1 25 (by decide) (by decide), f2.1 25 (by decide) (by decide), f1.1 25 (by decide) (by decide)]
            have rd48 : rd 48 0 = ev_u1 (dr 48 0) (4 + 2 * (16 * w1 + w2)) (Int32.ofNat w3) := by
              rw [fd.1 48 (by decide), u3r, fc.1 48 (by decide), fb.1 48 (by decide), fa.1 48 (by decide), kA.1 48 (by decide)]
            have rdo : ∀ r, r ≠ 44 → r ≠ 48 → rd r = dr r := fun r x y => by
              rw [fd.1 r x, u3n y, fc.1 r x, fb.1 r x, fa.1 r x, kA.1 r x]
            have rd44 : ∀ k, 12 < k → rd 44 0 k = dr 44 0 k := fun k hk => by
              rw [fd.2 k (.inr hk), u3n (by decide), fc.2 k (.inr hk), fb.2 k (.inr hk), fa.2 k (.inr hk), kA.2 k (.inr hk)]
            have w30 : 0 < Int32.ofNat w3 := (ni_lt (a := 0) (by omega) (by omega)).mpr (by have := (ni_le (a := 1) (by omega) (by omega)).mp hw3'; omega)
            refine .inl ⟨ev_u3 d4 26 0 (16 * w1 + w2) (Int32.ofNat w4), ev_u3 rd 48 0 (4 + 2 * (16 * w1 + w2) + 1) (Int32.ofNat w4), P5, C, EV_bk (k := 400) ?_, EV_bk (k := 400) ?_, KS_t (KS_KC f1) (KS_t (KS_KC f2) (KS_t (KS_KC f3) (KS_t (KS_u (by decide)) (KS_t (KS_KC f4) (KS_u (by decide)))))), KT_t (KT_KR kA) (KT_t (KT_KR fa) (KT_t (KT_KR fb) (KT_t (KT_KR fc) (KT_t (KT_u (.inl rfl)) (KT_t (KT_KR fd) (KT_u (.inl rfl))))))), CT_u c4 (by decide) (by decide), gd, ?_, ?_⟩
            · rw [bk_36_0]
              simp (decide := true) only [ev_bi, l1, l2, l3, cond_true, hB, e1, ↓reduceIte, d1R, e2, v1, v2, ecell, ni_in (n := 16 * w1 + w2) (N := 64) (by omega) (by omega), ni_c (n := 16 * w1 + w2) (by omega), d225, d2n, e3, v3, e4, v4]
            · rw [bk_145_0, eA]
              simp (decide := true) only [ev_bv, ev_bi, l4, cond_true, cA0, ea, ↓reduceIte, ra8, ra9, raR, rlt, va, ni_K, ni_in (n := 4 + 2 * (16 * w1 + w2)) (N := 132) (by omega) (by omega), ni_c (n := 4 + 2 * (16 * w1 + w2)) (by omega), ra48, hz', eb, vb, ec, ni_1, ed]
            · obtain ⟨⟨x0, x1, x2, x3, x4⟩, -, ⟨q3, q4, q5⟩, q6, q7, q8, q9, q10⟩ := hq
              have n48 : ev_u3 rd 48 0 (4 + 2 * (16 * w1 + w2) + 1) (Int32.ofNat w4) 48 0 = ev_u1 (ev_u1 (dr 48 0) (4 + 2 * (16 * w1 + w2)) (Int32.ofNat w3)) (4 + 2 * (16 * w1 + w2) + 1) (Int32.ofNat w4) := by rw [u3r, rd48]
              have nr : ∀ r, r ≠ 44 → r ≠ 48 → ev_u3 rd 48 0 (4 + 2 * (16 * w1 + w2) + 1) (Int32.ofNat w4) r = dr r := fun r x y => by rw [u3n y, rdo r x y]
              have nc : ∀ r, r ≠ 28 → r ≠ 29 → r ≠ 25 → r ≠ 26 → ev_u3 d4 26 0 (16 * w1 + w2) (Int32.ofNat w4) r = dc r := fun r x y z v => by rw [u3n v, dc4 r x y z]
              unfold QS
              rw [n48, nr 49 (by decide) (by decide), nr 50 (by decide) (by decide), nc 31 (by decide) (by decide) (by decide) (by decide), nc 24 (by decide) (by decide) (by decide) (by decide), u3n (r' := 44) (r := 48) (by decide), rd44 13 (by decide), rd44 14 (by decide)]
              refine ⟨⟨?_, ?_, ?_, ?_, fun k hk => ?_⟩, ⟨⟨?_, ?_, b1, b4, r1, r16⟩, ?_, ?_, fun k hk => ?_⟩, ⟨q3, q4, q5⟩, CS_d q6 (fun r hr' => by rw [nc r (by omega) (by omega) (by omega) (by omega)]), q7, q8, q9, q10⟩
              · rw [nc 24 (by decide) (by decide) (by decide) (by decide), u1n (by omega), u1n (by omega), x0]
              · rw [nc 24 (by decide) (by decide) (by decide) (by decide), u1n (by omega), u1n (by omega), x1]
              · rw [nc 24 (by decide) (by decide) (by decide) (by decide), u1n (by omega), u1n (by omega), x2]
              · rw [nc 24 (by decide) (by decide) (by decide) (by decide), u1n (by omega), u1n (by omega), x3]
              · rw [u3n (by decide), d425, u3r, dc4 26 (by decide) (by decide) (by decide)]
                by_cases e : k = 16 * w1 + w2
                · subst e
                  right
                  rw [u1s, u1s, u1n (by omega), u1s, u1s]
                  exact ⟨rfl, rfl, w30⟩
                · rw [u1n e, u1n e, u1n (j := 4 + 2 * k) (by omega), u1n (j := 4 + 2 * k) (by omega), u1n (j := 4 + 2 * k + 1) (by omega), u1n (j := 4 + 2 * k + 1) (by omega)]
                  exact x4 k hk
              · rw [u1n (by omega), u1n (by omega), t0]
              · rw [u1n (by omega), u1n (by omega), t1]
              · rw [u1n (by omega), u1n (by omega)]
                exact ⟨t2, t2'⟩
              · rw [u1n (by omega), u1n (by omega)]
                exact t3
              · rw [u1n (j := 4 + 2 * k) (by omega)]
                by_cases e : k = 16 * w1 + w2
                · subst e
                  rw [u1s, ni_t (by omega)]
                  omega
                · rw [u1n (by omega)]
                  exact t4 k hk
            · have z1 := (tk_sle (b := b) (len := len) (p := tk_e b len p) hc.1).1
              have z2 := (tk_ele (b := b) (len := len) (p := tk_e b len p) hc.1).1
              have z3 := (tk_sle (b := b) (len := len) (p := P2) p2).1
              have z4 := (tk_ele (b := b) (len := len) (p := P2) p2).1
              have z5 := (tk_sle (b := b) (len := len) (p := P3) p3).1
              have z6 := (tk_ele (b := b) (len := len) (p := P3) p3).1
              have z7 := (tk_sle (b := b) (len := len) (p := P4) p4).1
              have z8 := (tk_ele (b := b) (len := len) (p := P4) p4).1
              omega
          · obtain ⟨d4, e4, f4, x1, x2⟩ := ec_num0 (n := n) (o := o) hl c3' g4
            obtain ⟨rd, ed, fd, y1, y2⟩ := em_lays0 (n := m) (lk := lk) (o := u) (x := Int32.ofNat (4 + 2 * (16 * w1 + w2) + 1)) gc g4
            refine .inr ⟨d4, rd, EV_bk (k := 400) ?_, EV_bk (k := 400) ?_, KS_t (KS_KC f1) (KS_t (KS_KC f2) (KS_t (KS_KC f3) (KS_t (KS_u (by decide)) (KS_KC f4)))), KT_t (KT_KR kA) (KT_t (KT_KR fa) (KT_t (KT_KR fb) (KT_t (KT_KR fc) (KT_t (KT_u (.inl rfl)) (KT_KR fd))))), PE_n x1 x2 y1 y2⟩
            · rw [bk_36_0]
              simp (decide := true) only [ev_bi, l1, l2, l3, cond_true, hB, e1, ↓reduceIte, d1R, e2, v1, v2, ecell, ni_in (n := 16 * w1 + w2) (N := 64) (by omega) (by omega), ni_c (n := 16 * w1 + w2) (by omega), d225, d2n, e3, v3, e4]
            · rw [bk_145_0, eA]
              simp (decide := true) only [ev_bv, ev_bi, l4, cond_true, cA0, ea, ↓reduceIte, ra8, ra9, raR, rlt, va, ni_K, ni_in (n := 4 + 2 * (16 * w1 + w2)) (N := 132) (by omega) (by omega), ni_c (n := 4 + 2 * (16 * w1 + w2)) (by omega), ra48, hz', eb, vb, ec, ni_1, ed]
        · obtain ⟨d3, e3, f3, x1, x2⟩ := ec_num0 (n := n) (o := o) hl c2 g3
          obtain ⟨rc, ec, fc, y1, y2⟩ := em_lays0 (n := m) (lk := lk) (o := u) (x := Int32.ofNat (4 + 2 * (16 * w1 + w2))) gb g3
          refine .inr ⟨d3, rc, EV_bk (k := 400) ?_, EV_bk (k := 400) ?_, KS_t (KS_KC f1) (KS_t (KS_KC f2) (KS_KC f3)), KT_t (KT_KR kA) (KT_t (KT_KR fa) (KT_t (KT_KR fb) (KT_KR fc))), PE_n x1 x2 y1 y2⟩
          · rw [bk_36_0]
            simp (decide := true) only [ev_bi, l1, l2, l3, cond_true, hB, e1, ↓reduceIte, d1R, e2, v1, v2, ecell, ni_in (n := 16 * w1 + w2) (N := 64) (by omega) (by omega), ni_c (n := 16 * w1 + w2) (by omega), d225, d2n, e3]
          · rw [bk_145_0, eA]
            simp (decide := true) only [ev_bv, ev_bi, l4, cond_true, cA0, ea, ↓reduceIte, ra8, ra9, raR, rlt, va, ni_K, ni_in (n := 4 + 2 * (16 * w1 + w2)) (N := 132) (by omega) (by omega), ni_c (n := 4 + 2 * (16 * w1 + w2)) (by omega), ra48, hz', eb, vb, ec]
    · obtain ⟨d2, e2, f2, x1, x2⟩ := ec_num0 (n := n) (o := o) hl c1 g2
      obtain ⟨rb, eb, fb, y1, y2⟩ := em_num0 (n := m) (lk := lk) (o := u) ga g2
      refine .inr ⟨d2, rb, EV_bk (k := 400) ?_, EV_bk (k := 400) ?_, KS_t (KS_KC f1) (KS_KC f2), KT_t (KT_KR kA) (KT_t (KT_KR fa) (KT_KR fb)), PE_n x1 x2 y1 y2⟩
      · rw [bk_36_0]
        simp (decide := true) only [ev_bi, l1, cond_true, hB, e1, ↓reduceIte, d1R, e2]
      · rw [bk_145_0, eA]
        by_cases k2 : tk_k b len P2 = 2
        · obtain ⟨w2, hw2m, hw2⟩ := tk_nn p2 k2
          have ra8 : ra 44 0 8 = 2 := by rw [ga.2.2.1.2.2.1, k2]
          have ra9 : ra 44 0 9 = Int32.ofNat w2 := by rw [ga.2.2.1.2.2.2 k2]; exact hw2
          have rlt : ¬ Int32.ofNat w2 < Int32.ofNat R := fun v => g2 ⟨k2, by rw [hw2]; exact ni_lo (by omega), by rw [hw2]; exact (i32_pred (by omega)).mpr v⟩
          simp (decide := true) only [ev_bv, ev_bi, l4, cond_true, cA0, ea, ↓reduceIte, ra8, ra9, raR, rlt, va, eb]
        · have ra8 : ¬ ra 44 0 8 = 2 := by rw [ga.2.2.1.2.2.1]; exact k2
          simp (decide := true) only [ev_bv, ev_bi, l4, cond_true, cA0, ea, ↓reduceIte, ra8, raR, va, eb]
  · obtain ⟨d1, e1, f1, x1, x2⟩ := ec_num0 (n := n) (o := o) hl hc g1
    obtain ⟨ra, ea, fa, y1, y2⟩ := em_num0 (n := m) (lk := lk) (o := u) gA g1
    refine .inr ⟨d1, ra, EV_bk (k := 400) ?_, EV_bk (k := 400) ?_, KS_KC f1, KT_t (KT_KR kA) (KT_KR fa), PE_n x1 x2 y1 y2⟩
    · rw [bk_36_0]
      simp (decide := true) only [ev_bi, l1, cond_true, hB, e1, ↓reduceIte]
    · rw [bk_145_0, eA]
      simp (decide := true) only [ev_bv, ev_bi, l4, cond_true, cA0, ea, ↓reduceIte]
