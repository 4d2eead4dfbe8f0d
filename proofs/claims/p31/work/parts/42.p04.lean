/-! THE LAW'S METHODS, 4: state, a row -/
variable {σ : Int32}
section ST2
variable {lk : Nat → Nat → Nat → Bool} {d : Nat → Nat → Nat → Int32} {wn : Nat} {tt : Nat → Nat} {e : Nat → Nat → Nat → Int32} {q : Nat → Nat → Nat → Nat} {i B R C τ : Nat} {P : ev_O × ev_M → Prop}
theorem bnd_hot {t w : Nat → Int32} {b r : Nat} : ms_bnd t w (16 * b + r) (if ms_hot w b then 1 else 0) = ms_bound t w b r := by
  unfold ms_bnd ms_bound
  by_cases c : ms_hot w b
  · rw [if_pos c, if_pos c, if_neg (by decide)]
  · rw [if_neg c, if_neg c, if_pos rfl]
theorem st_row (hq : LQ q i) (hR : LR σ d e i B R C τ) (hi : i + 45 ≤ wn) {b r i9 : Nat} (hb : b < B) (hr : r < R) {y2 y3 y4 y5 y6 y11 : Int32} {c s : Nat} (hc : c + 1 ≤ 1200) (hs : s + 9 ≤ 7200) (h11 : y11 = if e 205 (i + 9 + 9 * b + 1) r ≤ 0 then 0 else 1)
    (kk : ∀ e', (∀ k, k < 9 → e' 209 wn k = ol_rwv d b r k) → (∀ r x p, x < wn → e' r x p = e r x p) → ER (279, 405, [ev_R 27 0, ev_R 200 i, ev_I y2, ev_I y3, ev_I y4, ev_I y5, ev_I y6, ev_I (Int32.ofNat b), ev_R 201 (i + 9 + 9 * b), ev_R 209 i9, ev_I (Int32.ofNat r), ev_I y11, ev_R 209 wn, ev_I 0], [], c + 1, s + 9) (384, lk, d, wn + 1, ev_n1 tt wn 209, e', ev_z3 q 209 wn) P) :
    ER (279, 262, [ev_R 27 0, ev_R 200 i, ev_I y2, ev_I y3, ev_I y4, ev_I y5, ev_I y6, ev_I (Int32.ofNat b), ev_R 201 (i + 9 + 9 * b), ev_R 209 i9, ev_I (Int32.ofNat r), ev_I y11], [], c, s) (384, lk, d, wn, tt, e, q) P := by
  obtain ⟨b4, -, -, r6, h39, -⟩ := hR.bds
  obtain ⟨-, T, hG, ⟨u, K, hV, hI, hC, -, -, hBL, -⟩, -⟩ := id hR
  have hb4 : b < 4 := by omega
  have hr16 : r < 16 := by omega
  have hQ' : LQ (ev_z3 q 209 wn) i := LQ_q hq fun r x p h1 h2 => z3_ne (by omega)
  have hV' : ∀ e' : Nat → Nat → Nat → Int32, (∀ r x p, x < wn → e' r x p = e r x p) → LV e' i (d 45 0) (d 46 0) u := fun e' he => hV.off fun r j p h1 h2 => he r j p (by omega)
  obtain ⟨-, m13, m14, m15, m16, m17, m18, m19, m20⟩ := hQ'.2 b hb4
  have aw := hV _ _ _ _ _ (la_own hb4 hr16)
  have af := hV _ _ _ _ _ (la_from hb4 hr16)
  have aa := hV _ _ _ _ _ (la_age hb4 hr16)
  have ar := hV _ _ _ _ _ (la_rfr hb4 hr16)
  have ac := hV _ _ _ _ _ (la_acs hb4 hr16)
  have al := hV _ _ _ _ _ (la_lss hb4 hr16)
  have ao := hV _ _ _ _ _ (la_lost hb4 hr16)
  have hcl := hG.2.2.1.2.2.2.2 (16 * b + r) (by omega)
  have k15 := (hq.2 b hb4).2.2.2.1
  have hl := lm_hot (n := 384) (lk := lk) (d := d) (wn := wn + 1) (tt := ev_n1 tt wn 209) hQ' (hV' (ev_u3 (ev_w3 e 209 wn (fun _ => 0)) 209 wn 0 (d 46 0 (55 + 5 * (16 * b + r) + 0))) fun r x p hx => by rw [u3_ne (by omega), w3_ne (by omega)]) hb4
  refine ER_bk ?_
  rw [bk_279_262, show (Nat.beq 384 384 && (Nat.ble (c + 1) 1200 && Nat.ble (s + 9) 7200)) = true by rw [ble2 hc hs]; rfl, cond_true, k15, ev_lq_s, ni_in (n := r) (N := 16) hr16 (by omega), cond_true, ni_c (n := r) (by omega), ble2 (by omega) (by omega), cond_true, aa]
  show ∃ r', (ev_bi (EV (264, 0, [ev_R 200 i, ev_R 201 (i + 9 + 9 * b)], [], 0, 0) (384, lk, d, wn + 1, ev_n1 tt wn 209, ev_u3 (ev_w3 e 209 wn (fun _ => 0)) 209 wn 0 (d 46 0 (55 + 5 * (16 * b + r) + 0)), ev_z3 q 209 wn)) ev_tr _) = some r' ∧ P r'
  rw [hl]
  simp only [ev_bi, ble2 (show c + 1 + 0 + 0 ≤ 1200 by omega) (show s + 9 + 0 + 0 ≤ 7200 by omega), cond_true]
  rw [lm_limit (n := 384) (lk := lk) (d := d) (wn := wn + 1) (tt := ev_n1 tt wn 209) hQ' (hV' (ev_u3 (ev_w3 e 209 wn (fun _ => 0)) 209 wn 0 (d 46 0 (55 + 5 * (16 * b + r) + 0))) fun r x p hx => by rw [u3_ne (by omega), w3_ne (by omega)]) hb4 hr16, bnd_hot]
  simp only [ble2 (show c + 1 + 0 + 0 + 0 ≤ 1200 by omega) (show s + 9 + 0 + 0 + 0 ≤ 7200 by omega), cond_true]
  rw [lm_remains (n := 384) (lk := lk) (d := d) (wn := wn + 1) (tt := ev_n1 tt wn 209) hQ' (hV' (ev_u3 (ev_u3 (ev_w3 e 209 wn (fun _ => 0)) 209 wn 0 (d 46 0 (55 + 5 * (16 * b + r) + 0))) 209 wn 1 (ms_bound (d 45 0) (d 46 0) b r)) fun r x p hx => by rw [u3_ne (by omega), u3_ne (by omega), w3_ne (by omega)]) hb4 hr16]
  simp only [m13, m14, m16, m17, m18, m20, ev_lq_s, ni_in (n := r) (N := 16) hr16 (by omega), ni_c (n := r) (by omega), cond_true]
  simp (disch := omega) only [u3_ne, w3_ne, aw, af, ar, ac, al, ao]
  have fin : ∀ v3 v7 v8, v3 = d 46 0 (55 + 5 * (16 * b + r) + 1) → v7 = d 25 1 (16 * b + r) → v8 = d 26 1 (16 * b + r) → ER (279, 405, [ev_R 27 0, ev_R 200 i, ev_I y2, ev_I y3, ev_I y4, ev_I y5, ev_I y6, ev_I (Int32.ofNat b), ev_R 201 (i + 9 + 9 * b), ev_R 209 i9, ev_I (Int32.ofNat r), ev_I y11, ev_R 209 wn, ev_I 0], [], c + 1, s + 9) (384, lk, d, wn + 1, ev_n1 tt wn 209, ev_u3 (ev_u3 (ev_u3 (ev_u3 (ev_u3 (ev_u3 (ev_u3 (ev_u3 (ev_u3 (ev_w3 e 209 wn (fun _ => 0)) 209 wn 0 (d 46 0 (55 + 5 * (16 * b + r) + 0))) 209 wn 1 (ms_bound (d 45 0) (d 46 0) b r)) 209 wn 2 (ms_rem (d 45 0) (d 46 0) b r)) 209 wn 3 v3) 209 wn 4 (d 46 0 (55 + 5 * (16 * b + r) + 2))) 209 wn 5 (d 46 0 (55 + 5 * (16 * b + r) + 3))) 209 wn 6 (d 46 0 (55 + 5 * (16 * b + r) + 4))) 209 wn 7 v7) 209 wn 8 v8, ev_z3 q 209 wn) P := fun v3 v7 v8 e3 e7 e8 => by
    refine kk _ (fun k hk => ?_) (fun r x p hx => by simp (disch := omega) only [u3_ne, w3_ne])
    match k, hk with
    | 0, _ => simp (disch := omega) only [u3_ne, u3_eq]; rfl
    | 1, _ => simp (disch := omega) only [u3_ne, u3_eq]; rfl
    | 2, _ => simp (disch := omega) only [u3_ne, u3_eq]; rfl
    | 3, _ => simp (disch := omega) only [u3_ne, u3_eq]; exact e3
    | 4, _ => simp (disch := omega) only [u3_ne, u3_eq]; rfl
    | 5, _ => simp (disch := omega) only [u3_ne, u3_eq]; rfl
    | 6, _ => simp (disch := omega) only [u3_ne, u3_eq]; rfl
    | 7, _ => simp (disch := omega) only [u3_ne, u3_eq]; exact e7
    | 8, _ => simp (disch := omega) only [u3_ne, u3_eq]; exact e8
  rw [aw] at h11
  have aw0 : LZ (d 45 0) (d 46 0) u 1 (4 + 2 * (16 * b + r)) = d 45 0 (4 + 2 * (16 * b + r)) := rfl
  rw [aw0] at h11
  rcases hBL (16 * b + r) (by omega) with z | z
  · rw [if_pos (show LZ (d 45 0) (d 46 0) u 0 (55 + 5 * (16 * b + r) + 1) = 0 from z)]
    rcases hcl with ⟨c1, c2, c3⟩ | ⟨c1, c2, c3⟩
    · have y0 : y11 = 0 := by rw [h11, c3]; rfl
      rw [if_pos y0, if_pos y0]
      exact fin 0 (-1) (-1) z.symm c1.symm c2.symm
    · have y0 : ¬ y11 = 0 := by rw [h11, if_neg (Int32.not_le.mpr c3)]; decide
      rw [if_neg y0, if_neg y0]
      exact fin 0 _ _ z.symm c1.symm c2.symm
  · rw [if_neg (show ¬ LZ (d 45 0) (d 46 0) u 0 (55 + 5 * (16 * b + r) + 1) = 0 from fun y => absurd (z.symm.trans y) (by decide))]
    rcases hcl with ⟨c1, c2, c3⟩ | ⟨c1, c2, c3⟩
    · have y0 : y11 = 0 := by rw [h11, c3]; rfl
      rw [if_pos y0, if_pos y0]
      exact fin 1 (-1) (-1) z.symm c1.symm c2.symm
    · have y0 : ¬ y11 = 0 := by rw [h11, if_neg (Int32.not_le.mpr c3)]; decide
      rw [if_neg y0, if_neg y0]
      exact fin 1 _ _ z.symm c1.symm c2.symm
end ST2
