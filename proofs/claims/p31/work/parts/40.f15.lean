/-! THE LAW'S OWN MEMORY, 15: the rows of a bank grow -/
/-- what a row lost is 0 or 1 -/
def BL (w : Nat → Int32) : Prop := ∀ c, c < 64 → w (55 + 5 * c + 1) = 0 ∨ w (55 + 5 * c + 1) = 1
theorem BL_ages {t w : Nat → Int32} {b r : Nat} {to hot : Int32} (h : BL w) : BL (ms_ages t w b r to hot) := fun c hc => by
  unfold ms_ages ms_lose ms_age1
  split
  · by_cases e : c = 16 * b + r
    · subst e
      rw [u1s]
      exact Or.inl rfl
    · rw [u1n (by omega), u1n (by omega)]
      exact h c hc
  · split
    · by_cases e : c = 16 * b + r
      · subst e
        rw [u1n (by omega), u1n (by omega), u1s]
        exact Or.inr rfl
      · rw [u1n (by omega), u1n (by omega), u1n (by omega), u1n (by omega)]
        exact h c hc
    · rw [u1n (by omega)]
      exact h c hc
theorem bnd_pos {t w : Nat → Int32} {B R c : Nat} {x : Int32} (hT : TC t B R) : 0 < ms_bnd t w c x := by
  obtain ⟨-, ⟨h2, -⟩, -⟩ := hT
  have z0 : (0 : Int32).toInt = 0 := by decide
  have hc : 0 < ms_cool t w c := by
    unfold ms_cool
    split
    · rename_i h; exact h.1
    · rw [i32_lt, z0]; omega
  unfold ms_bnd
  split
  · exact hc
  · unfold ms_half
    have z1 : (1 : Int32).toInt = 1 := by decide
    split
    · decide
    · rename_i h
      rw [i32_lt] at h ⊢
      omega
section LM15
variable {n : Nat} {lk : Nat → Nat → Nat → Bool} {d : Nat → Nat → Nat → Int32} {wn : Nat} {tt : Nat → Nat} {e : Nat → Nat → Nat → Int32} {q : Nat → Nat → Nat → Nat} {i : Nat} {t u : Nat → Int32} {P : ev_O × ev_M → Prop}
theorem LV.put14 {w : Nat → Int32} {r j p K : Nat} {v c0 : Int32} (h : LV e i t (ev_u1 w 14 c0) u) (ha : LA i r j p 0 K) (hK : K ≠ 14) : LV (ev_u3 e r j p v) i t (ev_u1 (ev_u1 w K v) 14 c0) u := by
  rw [u1_c hK]
  exact h.put0 ha
theorem lm_row (hq : LQ q i) {B R : Nat} (hT : TC t B R) {V : Nat → Int32} {b r : Nat} {to hot c0 y y2 : Int32} (hb : b < 4) (hr : r < R) (hBL : BL V) (hu2 : u (5 * b + 2) = to) (hu4 : u (5 * b + 4) = hot) (h : LV e i t (ev_u1 V 14 c0) u) (hy : y = V 14 - c0)
    (kk : ∀ e' y', LV e' i t (ev_u1 (ms_ages t V b r to hot) 14 c0) u → LF e e' i → y' = ms_ages t V b r to hot 14 - c0 → ER (273, 248, [ev_R 200 i, ev_I y', ev_I y2, ev_R 201 (i + 9 + 9 * b), ev_I (Int32.ofNat (r + 1))], [], 0, 0) (n, lk, d, wn, tt, e', q) P) :
    ER (273, 248, [ev_R 200 i, ev_I y, ev_I y2, ev_R 201 (i + 9 + 9 * b), ev_I (Int32.ofNat r)], [], 0, 0) (n, lk, d, wn, tt, e, q) P := by
  obtain ⟨⟨-, t1, -, -, -, h16⟩, -⟩ := id hT
  have hr16 : r < 16 := by omega
  obtain ⟨-, -, -, k15, -, -, k18, -, k20⟩ := hq.2 b hb
  have c1 : e 200 i 1 = Int32.ofNat R := (h _ _ _ _ _ (la_f (k := 1) (by omega))).trans t1
  have c10 : e 201 (i + 9 + 9 * b) 10 = to := (h _ _ _ _ _ (la_bx hb (k := 2) (by omega))).trans hu2
  have ca : e 205 (i + 9 + 9 * b + 3) r = V (55 + 5 * (16 * b + r) + 0) := (h _ _ _ _ _ (la_age hb hr16)).trans (u1n (by omega))
  have i16 := ni_in (n := r) (N := 16) hr16 (by omega)
  have n16 := ni_c (n := r) (by omega)
  have hy1 : ∀ x : Int32, (V 14 - c0) + 1 = (V 14 + 1) - c0 := fun _ => by
    rw [Int32.sub_eq_add_neg, Int32.sub_eq_add_neg, Int32.add_assoc, Int32.add_comm (-c0) 1, ← Int32.add_assoc]
  -- the end of a row
  have last : ∀ e' y' z z', LV e' i t (ev_u1 (ms_ages t V b r to hot) 14 c0) u → LF e e' i → y' = ms_ages t V b r to hot 14 - c0 → ER (273, 391, [ev_R 200 i, ev_I y', ev_I y2, ev_R 201 (i + 9 + 9 * b), ev_I (Int32.ofNat r), ev_I z, ev_I z'], [], 0, 0) (n, lk, d, wn, tt, e', q) P := fun e' y' z z' g1 g2 g3 => by
    refine ER_bk ?_
    rw [bk_273_391, ni_1]
    exact kk e' y' g1 g2 g3
  by_cases ht : to = Int32.ofNat r
  · -- touched
    have hs : ms_ages t V b r to hot = ev_u1 (ev_u1 V (55 + 5 * (16 * b + r) + 0) 0) (55 + 5 * (16 * b + r) + 1) 0 := by
      unfold ms_ages
      rw [if_pos ht]
    have p1 := h.put14 (la_age hb hr16) (v := 0) (by omega)
    have q1 := (LF.rf e i).put (la_age (i := i) hb hr16) (v := 0)
    have p2 := p1.put14 (la_lost hb hr16) (v := 0) (by omega)
    have q2 := q1.put (la_lost (i := i) hb hr16) (v := 0)
    rw [← hs] at p2
    have h14 : ms_ages t V b r to hot 14 = V 14 := by rw [hs, u1n (by omega), u1n (by omega)]
    refine ER_bk ?_
    rw [bk_273_248, c1, if_pos ((ni_lt (by omega) (by omega)).mpr hr), k15, ev_lq_s, c10, if_pos ht.symm, i16, cond_true, n16]
    have s12 : ev_u3 e 205 (i + 9 + 9 * b + 3) r 0 201 (i + 9 + 9 * b) 12 = hot := (p1 _ _ _ _ _ (la_bx hb (k := 4) (by omega))).trans hu4
    have s10 : ev_u3 e 205 (i + 9 + 9 * b + 3) r 0 201 (i + 9 + 9 * b) 10 = to := (p1 _ _ _ _ _ (la_bx hb (k := 2) (by omega))).trans hu2
    have sa : ev_u3 e 205 (i + 9 + 9 * b + 3) r 0 205 (i + 9 + 9 * b + 3) r = 0 := u3s
    have el := lm_limit (n := n) (lk := lk) (d := d) (wn := wn) (tt := tt) hq p1 hb hr16 hot
    generalize ev_u3 e 205 (i + 9 + 9 * b + 3) r 0 = e1 at p1 q1 p2 q2 s12 s10 sa el ⊢
    refine ER_bk ?_
    rw [bk_273_286]
    simp only [k15, ev_lq_s, i16, n16, cond_true, s12, el, ev_bi, sa]
    rw [if_pos (Int32.le_of_lt (bnd_pos hT))]
    refine ER_bk ?_
    rw [bk_273_314, if_pos rfl]
    refine ER_bk ?_
    rw [bk_273_336, k20, ev_lq_s, s10, if_pos ht.symm, i16, n16, cond_true]
    refine ER_bk ?_
    rw [bk_273_372, if_pos rfl]
    exact last _ y _ _ p2 q2 (by rw [hy, h14])
  · -- not touched
    have hne : ¬ (Int32.ofNat r = to) := fun z => ht z.symm
    have p1 := h.put14 (la_age hb hr16) (v := V (55 + 5 * (16 * b + r) + 0) + 1) (by omega)
    have q1 := (LF.rf e i).put (la_age (i := i) hb hr16) (v := V (55 + 5 * (16 * b + r) + 0) + 1)
    refine ER_bk ?_
    rw [bk_273_248, c1, if_pos ((ni_lt (by omega) (by omega)).mpr hr), k15, ev_lq_s, c10, if_neg hne, ev_lq_s, i16, cond_true, cond_true, n16, ca]
    have s12 : ev_u3 e 205 (i + 9 + 9 * b + 3) r (V (55 + 5 * (16 * b + r) + 0) + 1) 201 (i + 9 + 9 * b) 12 = hot := (p1 _ _ _ _ _ (la_bx hb (k := 4) (by omega))).trans hu4
    have s10 : ev_u3 e 205 (i + 9 + 9 * b + 3) r (V (55 + 5 * (16 * b + r) + 0) + 1) 201 (i + 9 + 9 * b) 10 = to := (p1 _ _ _ _ _ (la_bx hb (k := 2) (by omega))).trans hu2
    have sa : ev_u3 e 205 (i + 9 + 9 * b + 3) r (V (55 + 5 * (16 * b + r) + 0) + 1) 205 (i + 9 + 9 * b + 3) r = V (55 + 5 * (16 * b + r) + 0) + 1 := u3s
    have sl : ev_u3 e 205 (i + 9 + 9 * b + 3) r (V (55 + 5 * (16 * b + r) + 0) + 1) 206 (i + 9 + 9 * b + 8) r = V (55 + 5 * (16 * b + r) + 1) := (p1 _ _ _ _ _ (la_lost hb hr16)).trans ((u1n (by omega)).trans (u1n (by omega)))
    have el := lm_limit (n := n) (lk := lk) (d := d) (wn := wn) (tt := tt) hq p1 hb hr16 hot
    have p1' : LV (ev_u3 e 205 (i + 9 + 9 * b + 3) r (V (55 + 5 * (16 * b + r) + 0) + 1)) i t (ev_u1 (ms_age1 V (16 * b + r)) 14 c0) u := p1
    rw [bnd_AG (w' := ms_age1 V (16 * b + r)) (show ev_u1 (ev_u1 V (55 + 5 * (16 * b + r) + 0) (V (55 + 5 * (16 * b + r) + 0) + 1)) 14 c0 8 = ms_age1 V (16 * b + r) 8 from u1n (by omega))] at el
    generalize ev_u3 e 205 (i + 9 + 9 * b + 3) r (V (55 + 5 * (16 * b + r) + 0) + 1) = e1 at p1' q1 s12 s10 sa sl el ⊢
    have a0 : ms_age1 V (16 * b + r) (55 + 5 * (16 * b + r) + 0) = V (55 + 5 * (16 * b + r) + 0) + 1 := u1s _ _ _
    have a1 : ms_age1 V (16 * b + r) (55 + 5 * (16 * b + r) + 1) = V (55 + 5 * (16 * b + r) + 1) := u1n (by omega)
    have hs : ms_ages t V b r to hot = if ms_bnd t (ms_age1 V (16 * b + r)) (16 * b + r) hot < V (55 + 5 * (16 * b + r) + 0) + 1 ∧ V (55 + 5 * (16 * b + r) + 1) = 0 then ms_lose (ms_age1 V (16 * b + r)) (16 * b + r) else ms_age1 V (16 * b + r) := by
      unfold ms_ages
      rw [if_neg ht, a0, a1]
    have same : ev_u1 (ms_age1 V (16 * b + r)) (55 + 5 * (16 * b + r) + 1) (V (55 + 5 * (16 * b + r) + 1)) = ms_age1 V (16 * b + r) := u1_id a1
    have p2 := fun v => p1'.put14 (la_lost hb hr16) (v := v) (by omega)
    have q2 := fun v => q1.put (la_lost (i := i) hb hr16) (v := v)
    refine ER_bk ?_
    rw [bk_273_286]
    simp only [k15, ev_lq_s, i16, n16, cond_true, s12, el, ev_bi, sa]
    by_cases z1 : V (55 + 5 * (16 * b + r) + 0) + 1 ≤ ms_bnd t (ms_age1 V (16 * b + r)) (16 * b + r) hot
    · rw [if_neg (fun z => Int32.not_lt.mpr z1 z.1)] at hs
      rw [if_pos z1]
      refine ER_bk ?_
      rw [bk_273_314, if_pos rfl]
      refine ER_bk ?_
      rw [bk_273_336, k20, ev_lq_s, s10, if_neg hne, ev_lq_s, i16, cond_true, n16, sl]
      have fin : ∀ v, v = V (55 + 5 * (16 * b + r) + 1) → ER (273, 372, [ev_R 200 i, ev_I y, ev_I y2, ev_R 201 (i + 9 + 9 * b), ev_I (Int32.ofNat r), ev_I 0, ev_I 0], [], 0, 0) (n, lk, d, wn, tt, ev_u3 e1 206 (i + 9 + 9 * b + 8) r v, q) P := fun v hv => by
        refine ER_bk ?_
        rw [bk_273_372, if_pos rfl]
        refine last _ y _ _ ?_ (q2 v) ?_
        · rw [hs, ← same, ← hv]
          exact p2 v
        · rw [hs, hy]
          exact congrArg (· - c0) (u1n (by omega)).symm
      rcases hBL (16 * b + r) (by omega) with z | z
      · rw [if_pos z, if_pos rfl]
        exact fin 0 z.symm
      · rw [if_neg (by rw [z]; decide)]
        exact fin 1 z.symm
    · have z2 := Int32.not_le.mp z1
      rw [if_neg z1]
      refine ER_bk ?_
      rw [bk_273_314, if_neg (by decide), k20, ev_lq_s, i16, cond_true, n16, sl]
      rcases hBL (16 * b + r) (by omega) with z | z
      · rw [if_pos ⟨z2, z⟩] at hs
        rw [if_pos z]
        refine ER_bk ?_
        rw [bk_273_336, k20, ev_lq_s, s10, if_neg hne, ev_lq_s, i16, cond_true, n16, sl, if_pos z, if_neg (by decide), cond_true]
        have p3 := (p2 1).put14 (la_lss hb hr16) (v := ev_u1 (ms_age1 V (16 * b + r)) (55 + 5 * (16 * b + r) + 1) 1 (55 + 5 * (16 * b + r) + 4) + 1) (by omega)
        have sk : ev_u3 e1 206 (i + 9 + 9 * b + 8) r 1 205 (i + 9 + 9 * b + 6) r = ev_u1 (ms_age1 V (16 * b + r)) (55 + 5 * (16 * b + r) + 1) 1 (55 + 5 * (16 * b + r) + 4) := ((p2 1) _ _ _ _ _ (la_lss hb hr16)).trans (u1n (by omega))
        refine ER_bk ?_
        rw [bk_273_372, if_neg (by decide), k18, ev_lq_s, i16, cond_true, cond_true, n16, sk]
        refine last _ _ _ _ ?_ ((q2 1).put (la_lss (i := i) hb hr16)) ?_
        · rw [hs]
          refine LV.congr p3 fun r' j' p' T' K' ha => ?_
          match T' with
          | 0 =>
            show ev_u1 (ms_lose (ms_age1 V (16 * b + r)) (16 * b + r)) 14 c0 K' = ev_u1 _ 14 c0 K'
            unfold ms_lose
            by_cases e14 : K' = 14
            · subst e14; rw [u1s, u1s]
            · rw [u1n e14, u1n e14, u1n e14]
          | 1 => rfl
          | _ + 2 => rfl
        · rw [hs, hy, hy1 0]
          unfold ms_lose
          rw [u1s, u1n (by omega), u1n (by omega)]
          exact congrArg (fun x : Int32 => x + 1 - c0) (u1n (by omega)).symm
      · rw [if_neg (fun y => by rw [z] at y; exact absurd y.2 (by decide))] at hs
        rw [if_neg (by rw [z]; decide)]
        refine ER_bk ?_
        rw [bk_273_336, k20, ev_lq_s, s10, if_neg hne, ev_lq_s, i16, cond_true, n16, sl, if_neg (by rw [z]; decide), cond_true]
        refine ER_bk ?_
        rw [bk_273_372, if_pos rfl]
        refine last _ y _ _ ?_ (q2 1) ?_
        · rw [hs, ← same, z]
          exact p2 1
        · rw [hs, hy]
          exact congrArg (· - c0) (u1n (by omega)).symm
end LM15
