/-! THE LAW'S METHODS, 6: state, the banks -/
variable {σ : Int32}
theorem many_w {w w' : Nat → Int32} {b C : Nat} {st : Int32} (h : ∀ j, j < 615 → w' j = w j) (h40 : C ≤ 40) : ms_many w' b st C = ms_many w b st C := ms_many_c fun q hq => by rw [h _ (by omega), h _ (by omega)]
section ST4
variable {lk : Nat → Nat → Nat → Bool} {d : Nat → Nat → Nat → Int32} {wn : Nat} {tt : Nat → Nat} {e : Nat → Nat → Nat → Int32} {q : Nat → Nat → Nat → Nat} {i B R C τ : Nat} {P : ev_O × ev_M → Prop}
theorem st_banks (hl : LK lk) (hq : LQ q i) (hR : LR σ d e i B R C τ) (hi : i + 45 ≤ wn)
    (kk : ∀ wn' tt' d' e' q' c' s', KF wn d e q wn' d' e' q' → c' ≤ 173 * B → s' ≤ 1059 * B → ER (279, 507, [ev_R 27 0, ev_R 200 i, ev_I (Int32.ofNat (sm (d 46 0) C B)), ev_I (lsb (d 46 0) R B), ev_I (Int32.ofNat (ms_hots (d 46 0) B)), ev_I (ms_wb (d 45 0) (d 46 0) R 9999 B).1, ev_I (ms_wb (d 45 0) (d 46 0) R 9999 B).2, ev_I (Int32.ofNat B)], [], c', s') (384, lk, d', wn', tt', e', q') P) :
    ER (279, 0, [ev_R 27 0, ev_R 200 i], [], 0, 0) (384, lk, d, wn, tt, e, q) P := by
  obtain ⟨b4, -, -, r6, h39, -⟩ := hR.bds
  have loop : ∀ j b, b + j = B → ∀ wn' tt' d' e' q' c' s', KF wn d e q wn' d' e' q' → c' ≤ 173 * b → s' ≤ 1059 * b → ER (279, 18, [ev_R 27 0, ev_R 200 i, ev_I (Int32.ofNat (sm (d 46 0) C b)), ev_I (lsb (d 46 0) R b), ev_I (Int32.ofNat (ms_hots (d 46 0) b)), ev_I (ms_wb (d 45 0) (d 46 0) R 9999 b).1, ev_I (ms_wb (d 45 0) (d 46 0) R 9999 b).2, ev_I (Int32.ofNat b)], [], c', s') (384, lk, d', wn', tt', e', q') P := by
    intro j
    induction j with
    | zero =>
      intro b hb wn' tt' d' e' q' c' s' g1 g2 g3
      have eb : b = B := by omega
      subst eb
      obtain ⟨-, T, hG, ⟨u, K, hV, -⟩, -⟩ := g1.LR hi hR
      have e0 : e' 200 i 0 = Int32.ofNat b := (hV _ _ _ _ _ (la_f (k := 0) (by omega))).trans hG.2.1.1.1
      refine ER_bk ?_
      rw [bk_279_18, e0, if_neg (fun z => Int32.lt_irrefl z)]
      exact kk wn' tt' d' e' q' c' s' g1 g2 g3
    | succ j ih =>
      intro b hb wn' tt' d' e' q' c' s' g1 g2 g3
      have hb4 : b < 4 := by omega
      have hR' := g1.LR hi hR
      have hq' := g1.LQ hi hq
      have hi' : i + 45 ≤ wn' := Nat.le_trans hi g1.1
      obtain ⟨-, T, hG, ⟨u, K, hV, hI, hC, hr, hk, -⟩, -⟩ := id hR'
      obtain ⟨l, hs, hl'⟩ := hr b hb4
      have hlen := SF_len hk hs
      have e45 : d' 45 0 = d 45 0 := g1.2.1.2.2.2.2.1.1
      have e46 := g1.2.1.2.2.2.2.1.2.1
      have e0 : e' 200 i 0 = Int32.ofNat B := (hV _ _ _ _ _ (la_f (k := 0) (by omega))).trans hG.2.1.1.1
      have f0 : e' 201 (i + 9 + 9 * b) 0 = d' 46 0 (19 + 9 * b + 0) := hV _ _ _ _ _ (la_bk hb4 (k := 0) (by omega))
      have f1 : e' 201 (i + 9 + 9 * b) 1 = d' 46 0 (19 + 9 * b + 1) := hV _ _ _ _ _ (la_bk hb4 (k := 1) (by omega))
      have f2 : e' 201 (i + 9 + 9 * b) 2 = d' 46 0 (19 + 9 * b + 2) := hV _ _ _ _ _ (la_bk hb4 (k := 2) (by omega))
      have f3 : e' 201 (i + 9 + 9 * b) 3 = d' 46 0 (19 + 9 * b + 3) := hV _ _ _ _ _ (la_bk hb4 (k := 3) (by omega))
      have f4 : e' 201 (i + 9 + 9 * b) 4 = d' 46 0 (19 + 9 * b + 4) := hV _ _ _ _ _ (la_bk hb4 (k := 4) (by omega))
      have f5 : e' 201 (i + 9 + 9 * b) 5 = d' 46 0 (19 + 9 * b + 5) := hV _ _ _ _ _ (la_bk hb4 (k := 5) (by omega))
      have f6 : e' 201 (i + 9 + 9 * b) 6 = d' 46 0 (19 + 9 * b + 6) := hV _ _ _ _ _ (la_bk hb4 (k := 6) (by omega))
      have f7 : e' 201 (i + 9 + 9 * b) 7 = d' 46 0 (19 + 9 * b + 7) := hV _ _ _ _ _ (la_bk hb4 (k := 7) (by omega))
      have f8 : e' 201 (i + 9 + 9 * b) 8 = Int32.ofNat (ms_many (d' 46 0) b 1 C) := ((hV _ _ _ _ _ (la_bx hb4 (k := 0) (by omega))).trans hl'.1).trans (by rw [hlen])
      have hh := lm_hot (n := 384) (lk := lk) (d := d') (wn := wn') (tt := tt') hq' hV hb4
      have hm := many_w (b := b) (st := 1) e46 (show C ≤ 40 by omega)
      have hsm : Int32.ofNat (sm (d 46 0) C b) + Int32.ofNat (ms_many (d' 46 0) b 1 C) = Int32.ofNat (sm (d 46 0) C (b + 1)) := by
        rw [hm, ← Int32.ofNat_add]
        rfl
      have hhot : ms_hot (d' 46 0) b ↔ ms_hot (d 46 0) b := hot_AG (e46 3 (by omega)) (e46 _ (by omega))
      -- the array of nine, and on
      have go : ∀ y4 : Int32, y4 = Int32.ofNat (ms_hots (d 46 0) (b + 1)) → ER (279, 147, [ev_R 27 0, ev_R 200 i, ev_I (Int32.ofNat (sm (d 46 0) C (b + 1))), ev_I (lsb (d 46 0) R b), ev_I y4, ev_I (ms_wb (d 45 0) (d 46 0) R 9999 b).1, ev_I (ms_wb (d 45 0) (d 46 0) R 9999 b).2, ev_I (Int32.ofNat b), ev_R 201 (i + 9 + 9 * b), ev_R 209 wn', ev_I 0], [], c' + 1, s' + 9) (384, lk, d', wn' + 1, ev_n1 tt' wn' 209, ev_u3 (ev_u3 (ev_u3 (ev_u3 (ev_u3 (ev_u3 (ev_u3 (ev_u3 (ev_u3 (ev_w3 e' 209 wn' (fun _ => 0)) 209 wn' 0 (d' 46 0 (19 + 9 * b + 0))) 209 wn' 1 (d' 46 0 (19 + 9 * b + 1))) 209 wn' 2 (Int32.ofNat (ms_many (d' 46 0) b 1 C))) 209 wn' 3 (d' 46 0 (19 + 9 * b + 2))) 209 wn' 4 (d' 46 0 (19 + 9 * b + 3))) 209 wn' 5 (d' 46 0 (19 + 9 * b + 4))) 209 wn' 6 (d' 46 0 (19 + 9 * b + 5))) 209 wn' 7 (d' 46 0 (19 + 9 * b + 6))) 209 wn' 8 (d' 46 0 (19 + 9 * b + 7)), ev_z3 q' 209 wn') P := fun y4 h4 => by
        have ha : ∀ k, k < 9 → (ev_u3 (ev_u3 (ev_u3 (ev_u3 (ev_u3 (ev_u3 (ev_u3 (ev_u3 (ev_u3 (ev_w3 e' 209 wn' (fun _ => 0)) 209 wn' 0 (d' 46 0 (19 + 9 * b + 0))) 209 wn' 1 (d' 46 0 (19 + 9 * b + 1))) 209 wn' 2 (Int32.ofNat (ms_many (d' 46 0) b 1 C))) 209 wn' 3 (d' 46 0 (19 + 9 * b + 2))) 209 wn' 4 (d' 46 0 (19 + 9 * b + 3))) 209 wn' 5 (d' 46 0 (19 + 9 * b + 4))) 209 wn' 6 (d' 46 0 (19 + 9 * b + 5))) 209 wn' 7 (d' 46 0 (19 + 9 * b + 6))) 209 wn' 8 (d' 46 0 (19 + 9 * b + 7))) 209 wn' k = ol_bkv (d' 46 0) C b k := fun k hk => by
          match k, hk with
          | 0, _ => simp (disch := omega) only [u3_ne, u3_eq]; rfl
          | 1, _ => simp (disch := omega) only [u3_ne, u3_eq]; rfl
          | 2, _ => simp (disch := omega) only [u3_ne, u3_eq]; rfl
          | 3, _ => simp (disch := omega) only [u3_ne, u3_eq]; rfl
          | 4, _ => simp (disch := omega) only [u3_ne, u3_eq]; rfl
          | 5, _ => simp (disch := omega) only [u3_ne, u3_eq]; rfl
          | 6, _ => simp (disch := omega) only [u3_ne, u3_eq]; rfl
          | 7, _ => simp (disch := omega) only [u3_ne, u3_eq]; rfl
          | 8, _ => simp (disch := omega) only [u3_ne, u3_eq]; rfl
        have hf : ∀ r x p, x < wn' → (ev_u3 (ev_u3 (ev_u3 (ev_u3 (ev_u3 (ev_u3 (ev_u3 (ev_u3 (ev_u3 (ev_w3 e' 209 wn' (fun _ => 0)) 209 wn' 0 (d' 46 0 (19 + 9 * b + 0))) 209 wn' 1 (d' 46 0 (19 + 9 * b + 1))) 209 wn' 2 (Int32.ofNat (ms_many (d' 46 0) b 1 C))) 209 wn' 3 (d' 46 0 (19 + 9 * b + 2))) 209 wn' 4 (d' 46 0 (19 + 9 * b + 3))) 209 wn' 5 (d' 46 0 (19 + 9 * b + 4))) 209 wn' 6 (d' 46 0 (19 + 9 * b + 5))) 209 wn' 7 (d' 46 0 (19 + 9 * b + 6))) 209 wn' 8 (d' 46 0 (19 + 9 * b + 7))) r x p = e' r x p := fun r x p hx => by simp (disch := omega) only [u3_ne, w3_ne]
        generalize (ev_u3 (ev_u3 (ev_u3 (ev_u3 (ev_u3 (ev_u3 (ev_u3 (ev_u3 (ev_u3 (ev_w3 e' 209 wn' (fun _ => 0)) 209 wn' 0 (d' 46 0 (19 + 9 * b + 0))) 209 wn' 1 (d' 46 0 (19 + 9 * b + 1))) 209 wn' 2 (Int32.ofNat (ms_many (d' 46 0) b 1 C))) 209 wn' 3 (d' 46 0 (19 + 9 * b + 2))) 209 wn' 4 (d' 46 0 (19 + 9 * b + 3))) 209 wn' 5 (d' 46 0 (19 + 9 * b + 4))) 209 wn' 6 (d' 46 0 (19 + 9 * b + 5))) 209 wn' 7 (d' 46 0 (19 + 9 * b + 6))) 209 wn' 8 (d' 46 0 (19 + 9 * b + 7))) = e2 at ha hf ⊢
        have k2 : KF wn' d' e' q' (wn' + 1) d' e2 (ev_z3 q' 209 wn') := ⟨by omega, GF_r _, hf, fun r x p hx => z3_ne (by omega)⟩
        refine st_bank hl (k2.LQ hi' hq') (k2.LR hi' hR') (by omega) (by omega) (by omega) ha (by omega) (by omega) fun d3 c3 s3 x1 x2 x3 => ?_
        have k3 := k2.tr (KF.look x1)
        refine ER_bk ?_
        rw [bk_279_178]
        refine st_wait hl (k3.LQ hi' hq') (k3.LR hi' hR') (by omega) (by omega) (by omega) (by omega) fun d4 c4 s4 z y1 y2 y3 => ?_
        have k4 := k3.tr (KF.look y1)
        refine ER_bk ?_
        rw [bk_279_232]
        refine st_rows hl (k4.LQ hi' hq') (k4.LR hi' hR') (by omega) (by omega) (by omega) (by omega) fun wn5 tt5 d5 e5 q5 c5 s5 z1 z2 z3 => ?_
        have k5 := (g1.tr k4)
        have w45 : d4 45 0 = d 45 0 := k5.2.1.2.2.2.2.1.1
        have w46 := k5.2.1.2.2.2.2.1.2.1
        have hlr : ∀ R', R' ≤ 16 → lr (d4 46 0) b (lsb (d 46 0) R b) R' = lr (d 46 0) b (lsb (d 46 0) R b) R' := fun R' => by
          induction R' with
          | zero => intro _; rfl
          | succ R' ih =>
            intro h
            show lr (d4 46 0) b (lsb (d 46 0) R b) R' + d4 46 0 (55 + 5 * (16 * b + R') + 1) = lr (d 46 0) b (lsb (d 46 0) R b) R' + d 46 0 (55 + 5 * (16 * b + R') + 1)
            rw [ih (by omega), w46 _ (by omega)]
        have hup : ∀ (sw : Int32 × Int32) R', R' ≤ 16 → ms_up (d4 45 0) (d4 46 0) b sw R' = ms_up (d 45 0) (d 46 0) b sw R' := fun sw R' => by
          induction R' with
          | zero => intro _; exact (show ms_up (d4 45 0) (d4 46 0) b sw 0 = sw from if_pos rfl).trans (show ms_up (d 45 0) (d 46 0) b sw 0 = sw from if_pos rfl).symm
          | succ R' ih =>
            intro h
            rw [← ms_up_S, ← ms_up_S, ih (by omega), w45, rem_w w46 hb4 (by omega)]
        have hfin := ih (b + 1) (by omega) wn5 tt5 d5 e5 q5 c5 s5 (k5.tr z1) (by omega) (by omega)
        have n1 : lsb (d 46 0) R (b + 1) = lr (d 46 0) b (lsb (d 46 0) R b) R := rfl
        have n2 : ms_wb (d 45 0) (d 46 0) R 9999 (b + 1) = ms_up (d 45 0) (d 46 0) b (ms_wb (d 45 0) (d 46 0) R 9999 b) R := rfl
        rw [n1, n2, ← h4] at hfin
        rw [hlr R (by omega), hup _ R (by omega)]
        exact hfin
      have hst : ms_hots (d 46 0) (b + 1) = if ms_hot (d 46 0) b then ms_hots (d 46 0) b + 1 else ms_hots (d 46 0) b := rfl
      refine ER_bk ?_
      rw [bk_279_18, e0, if_pos ((ni_lt (by omega) (by omega)).mpr (by omega)), hq'.1.2.2.2.2.2.2.2, ev_lq_s, ni_in (n := b) (N := 4) hb4 (by omega), cond_true, ni_c (n := b) (by omega), (hq'.2 b hb4).1, ev_lq_s, ble2 (by omega) (by omega), cond_true, hh]
      simp only [ev_bi, f0, f1, f2, f3, f4, f5, f6, f7, f8, hsm, show (Nat.beq 384 384 && (Nat.ble (c' + 0 + 1) 1200 && Nat.ble (s' + 0 + 9) 7200)) = true by rw [ble2 (by omega) (by omega)]; rfl, cond_true]
      by_cases z : ms_hot (d 46 0) b
      · rw [if_pos (hhot.mpr z), if_neg (show ¬ (1 : Int32) = 0 by decide)]
        exact go _ (by rw [hst, if_pos z]; exact ni_1 _)
      · rw [if_neg (fun y => z (hhot.mp y)), if_pos rfl]
        exact go _ (by rw [hst, if_neg z, Int32.add_zero])
  refine ER_bk ?_
  rw [bk_279_0]
  have h := loop B 0 (by omega) wn tt d e q 0 0 KF.rf (by omega) (by omega)
  have n0 : ms_wb (d 45 0) (d 46 0) R 9999 0 = (0, 9999) := rfl
  have n1 : sm (d 46 0) C 0 = 0 := rfl
  have n2 : lsb (d 46 0) R 0 = 0 := rfl
  have n3 : ms_hots (d 46 0) 0 = 0 := rfl
  have n4 : Int32.ofNat 0 = 0 := rfl
  rw [n0, n1, n2, n3, n4] at h
  exact h
end ST4
