/-! THE LAW'S OWN MEMORY, 16: all rows of a bank grow -/
section LM16
variable {n : Nat} {lk : Nat → Nat → Nat → Bool} {d : Nat → Nat → Nat → Int32} {wn : Nat} {tt : Nat → Nat} {e : Nat → Nat → Nat → Int32} {q : Nat → Nat → Nat → Nat} {i : Nat} {t u : Nat → Int32} {P : ev_O × ev_M → Prop}
theorem BL_rows {t w : Nat → Int32} {b : Nat} {to hot : Int32} (h : BL w) : ∀ R, BL (ms_rows t w b to hot R)
  | 0 => h
  | R + 1 => BL_ages (BL_rows h R)
theorem lm_rows (hq : LQ q i) {B R : Nat} (hT : TC t B R) {V : Nat → Int32} {b k : Nat} {to hot c0 y : Int32} (hb : b < 4) (hBL : BL V) (hu2 : u (5 * b + 2) = to) (hu4 : u (5 * b + 4) = hot) (h : LV e i t (ev_u1 V 14 c0) u) (hy : y = V 14 - c0)
    (kk : ∀ e' y', LV e' i t (ev_u1 (ms_rows t V b to hot R) 14 c0) u → LF e e' i → y' = ms_rows t V b to hot R 14 - c0 → ER (273, 8, [ev_R 200 i, ev_I y', ev_I (Int32.ofNat (k + 1))], [], 0, 0) (n, lk, d, wn, tt, e', q) P) :
    ER (273, 245, [ev_R 200 i, ev_I y, ev_I (Int32.ofNat k), ev_R 201 (i + 9 + 9 * b)], [], 0, 0) (n, lk, d, wn, tt, e, q) P := by
  obtain ⟨⟨-, t1, -, -, -, h16⟩, -⟩ := id hT
  have loop : ∀ j r, r + j = R → ∀ e' y', LV e' i t (ev_u1 (ms_rows t V b to hot r) 14 c0) u → LF e e' i → y' = ms_rows t V b to hot r 14 - c0 → ER (273, 248, [ev_R 200 i, ev_I y', ev_I (Int32.ofNat k), ev_R 201 (i + 9 + 9 * b), ev_I (Int32.ofNat r)], [], 0, 0) (n, lk, d, wn, tt, e', q) P := by
    intro j
    induction j with
    | zero =>
      intro r hr e' y' g1 g2 g3
      have hrR : r = R := by omega
      subst hrR
      have c1 : e' 200 i 1 = Int32.ofNat r := (g1 _ _ _ _ _ (la_f (k := 1) (by omega))).trans t1
      refine ER_bk ?_
      rw [bk_273_248, c1, if_neg (fun z => Int32.lt_irrefl z)]
      refine ER_bk ?_
      rw [bk_273_397, ni_1]
      exact kk e' y' g1 g2 g3
    | succ j ih =>
      intro r hr e' y' g1 g2 g3
      exact lm_row hq hT hb (by omega) (BL_rows hBL r) hu2 hu4 g1 g3 fun e2 y2 a1 a2 a3 => ih (r + 1) (by omega) e2 y2 a1 (g2.tr a2) a3
  refine ER_bk ?_
  rw [bk_273_245]
  exact loop R 0 (by omega) e y h (LF.rf e i) hy
end LM16
