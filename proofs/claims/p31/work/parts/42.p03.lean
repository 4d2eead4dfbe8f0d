/-! THE LAW'S METHODS, 3: state, the loops that compare -/
variable {σ : Int32}
theorem bkv_w {w w' : Nat → Int32} {C b k : Nat} (h : ∀ j, j < 615 → w' j = w j) (hb : b < 4) (h40 : C ≤ 40) : ol_bkv w' C b k = ol_bkv w C b k := by
  have hm : ms_many w' b 1 C = ms_many w b 1 C := ms_many_c fun q hq => by rw [h _ (by omega), h _ (by omega)]
  unfold ol_bkv
  split
  · exact h _ (by omega)
  · exact h _ (by omega)
  · rw [hm]
  · exact h _ (by omega)
  · exact h _ (by omega)
  · exact h _ (by omega)
  · exact h _ (by omega)
  · exact h _ (by omega)
  · exact h _ (by omega)
section ST1
variable {lk : Nat → Nat → Nat → Bool} {d : Nat → Nat → Nat → Int32} {wn : Nat} {tt : Nat → Nat} {e : Nat → Nat → Nat → Int32} {q : Nat → Nat → Nat → Nat} {i B R C τ : Nat} {P : ev_O × ev_M → Prop}
theorem ble2 {a b x y : Nat} (h1 : a ≤ x) (h2 : b ≤ y) : (Nat.ble a x && Nat.ble b y) = true := by rw [Nat.ble_eq.mpr h1, Nat.ble_eq.mpr h2]; rfl
theorem LR.bds (h : LR σ d e i B R C τ) : B ≤ 4 ∧ 1 ≤ B ∧ 1 ≤ R ∧ R ≤ 6 ∧ C ≤ 39 ∧ τ ≤ 2000 := by
  obtain ⟨⟨a, b, -⟩, T, h1, -⟩ := h
  exact ⟨h1.2.1.1.2.2.2.1, h1.2.1.1.2.2.1, h1.2.1.1.2.2.2.2.1, a, b, h1.2.2.2.2.1⟩
/-- the nine numbers of a bank -/
theorem st_bank (hl : LK lk) (hq : LQ q i) (hR : LR σ d e i B R C τ) (hi : i + 45 ≤ wn) {b i8 i9 : Nat} (hb : b < B) (hi9 : i9 < wn) (he : ∀ k, k < 9 → e 209 i9 k = ol_bkv (d 46 0) C b k) {y2 y3 y4 y5 y6 : Int32} {c s : Nat} (hc : c + 18 ≤ 1200) (hs : s + 108 ≤ 7200)
    (kk : ∀ d' c' s', GF d d' → c' ≤ c + 18 → s' ≤ s + 108 → ER (279, 178, [ev_R 27 0, ev_R 200 i, ev_I y2, ev_I y3, ev_I y4, ev_I y5, ev_I y6, ev_I (Int32.ofNat b), ev_R 201 i8, ev_R 209 i9, ev_I 9], [], c', s') (384, lk, d', wn, tt, e, q) P) :
    ER (279, 147, [ev_R 27 0, ev_R 200 i, ev_I y2, ev_I y3, ev_I y4, ev_I y5, ev_I y6, ev_I (Int32.ofNat b), ev_R 201 i8, ev_R 209 i9, ev_I 0], [], c, s) (384, lk, d, wn, tt, e, q) P := by
  obtain ⟨b4, -, -, -, h39, -⟩ := hR.bds
  have loop : ∀ j k, k + j = 9 → ∀ d' c' s', GF d d' → c' + 2 * j ≤ c + 18 → s' + 12 * j ≤ s + 108 → ER (279, 147, [ev_R 27 0, ev_R 200 i, ev_I y2, ev_I y3, ev_I y4, ev_I y5, ev_I y6, ev_I (Int32.ofNat b), ev_R 201 i8, ev_R 209 i9, ev_I (Int32.ofNat k)], [], c', s') (384, lk, d', wn, tt, e, q) P := by
    intro j
    induction j with
    | zero =>
      intro k hk d' c' s' g1 g2 g3
      have e9 : k = 9 := by omega
      subst e9
      refine ER_bk ?_
      rw [bk_279_147, if_neg (by decide)]
      exact kk d' c' s' g1 (by omega) (by omega)
    | succ j ih =>
      intro k hk d' c' s' g1 g2 g3
      obtain ⟨-, T, hG, -⟩ := LR_GF hR g1
      obtain ⟨d2, gf, eq⟩ := gl_call (wn, tt, e, q) (ol_bank hl hG hb (k := k) (by omega))
      have ev : e 209 i9 k = ol_bkv (d' 46 0) C b k := by
        rw [he k (by omega)]
        exact (bkv_w g1.2.2.2.2.1.2.1 (by omega) (by omega)).symm
      refine ER_bk ?_
      rw [bk_279_147, if_pos (show Int32.ofNat k < 9 from (ni_lt (b := 9) (by omega) (by omega)).mpr (by omega)), ble2 (by omega) (by omega), cond_true, eq]
      simp only [ni_in (n := k) (N := 9) (by omega) (by omega), ni_c (n := k) (by omega), cond_true, ev, if_pos rfl, ni_1]
      exact ih (k + 1) (by omega) d2 _ _ (GF_t g1 gf) (by omega) (by omega)
  exact loop 9 0 (by omega) d c s (GF_r d) (by omega) (by omega)
/-- the queue of a bank -/
theorem st_wait (hl : LK lk) (hq : LQ q i) (hR : LR σ d e i B R C τ) (hi : i + 45 ≤ wn) {b i9 : Nat} (hb : b < B) {y2 y3 y4 y5 y6 : Int32} {c s : Nat} (hc : c + 40 ≤ 1200) (hs : s + 240 ≤ 7200)
    (kk : ∀ d' c' s' z, GF d d' → c' ≤ c + 40 → s' ≤ s + 240 → ER (279, 232, [ev_R 27 0, ev_R 200 i, ev_I y2, ev_I y3, ev_I y4, ev_I y5, ev_I y6, ev_I (Int32.ofNat b), ev_R 201 (i + 9 + 9 * b), ev_R 209 i9, ev_I z], [], c', s') (384, lk, d', wn, tt, e, q) P) :
    ER (279, 181, [ev_R 27 0, ev_R 200 i, ev_I y2, ev_I y3, ev_I y4, ev_I y5, ev_I y6, ev_I (Int32.ofNat b), ev_R 201 (i + 9 + 9 * b), ev_R 209 i9, ev_I 0], [], c, s) (384, lk, d, wn, tt, e, q) P := by
  obtain ⟨b4, -, -, -, h39, -⟩ := hR.bds
  obtain ⟨-, T, hG, ⟨u, K, hV, hI, hC, hr, hk, -⟩, -⟩ := id hR
  obtain ⟨l, hs, hl'⟩ := hr b (by omega)
  have hlen := SF.len hk (p := 0) (Nat.zero_le _) hs
  have hKC : K ≤ C := by
    rw [hk.2.1]
    exact ms_cm_le _ _
  have e8 : e 201 (i + 9 + 9 * b) 8 = Int32.ofNat l.length := (hV _ _ _ _ _ (la_bx (by omega) (k := 0) (by omega))).trans hl'.1
  have k19 := (hq.2 b (by omega)).2.2.2.2.2.2.2.1
  have loop : ∀ j k, k + j = l.length + 1 → ∀ d' c' s', GF d d' → c' + j ≤ c + 40 → s' + 6 * j ≤ s + 240 → ER (279, 181, [ev_R 27 0, ev_R 200 i, ev_I y2, ev_I y3, ev_I y4, ev_I y5, ev_I y6, ev_I (Int32.ofNat b), ev_R 201 (i + 9 + 9 * b), ev_R 209 i9, ev_I (Int32.ofNat k)], [], c', s') (384, lk, d', wn, tt, e, q) P := by
    intro j
    induction j with
    | zero =>
      intro k hk d' c' s' g1 g2 g3
      refine ER_bk ?_
      rw [bk_279_181, e8, if_neg (fun z => absurd ((ni_le (by omega) (by omega)).mp z) (by omega))]
      exact kk d' c' s' _ g1 (by omega) (by omega)
    | succ j ih =>
      intro k hk d' c' s' g1 g2 g3
      obtain ⟨-, T', hG', -⟩ := LR_GF hR g1
      obtain ⟨d2, gf, eq⟩ := gl_call (wn, tt, e, q) (ol_waiting hl hG' hb (k := k) (by omega))
      have ew : ms_wat (d' 46 0) b C k (-1) = l[k]? := SF.wat k (SF.same hs (fun x hx => by
        unfold ms_wt
        rw [g1.2.2.2.2.1.2.1 _ (by omega), g1.2.2.2.2.1.2.1 _ (by omega), g1.2.2.2.2.1.2.1 _ (by omega)]) (fun x hx _ => g1.2.2.2.2.1.2.1 _ (by omega)))
      rw [ew] at eq
      refine ER_bk ?_
      rw [bk_279_181, e8, if_pos ((ni_le (by omega) (by omega)).mpr (by omega)), ble2 (by omega) (by omega), cond_true, eq]
      simp only [e8]
      by_cases z : k < l.length
      · have hlk : l[k]? = some l[k] := List.getElem?_eq_getElem z
        have e40 : e 204 (i + 9 + 9 * b + 7) k = Int32.ofNat l[k] := (hV _ _ _ _ _ (la_qu (by omega) (p := k) (by omega))).trans (hl'.2.2 k _ hlk)
        rw [if_pos ((ni_lt (by omega) (by omega)).mpr z), k19, ev_lq_s, ni_in (n := k) (N := 40) (by omega) (by omega), cond_true, ni_c (n := k) (by omega), if_pos (show ms_en l[k]? = e 204 (i + 9 + 9 * b + 7) k by rw [hlk, e40]; rfl), ni_1]
        exact ih (k + 1) (by omega) d2 _ _ (GF_t g1 gf) (by omega) (by omega)
      · have hlk : l[k]? = none := List.getElem?_eq_none (by omega)
        rw [if_neg (fun y => z ((ni_lt (by omega) (by omega)).mp y)), if_pos (show ms_en l[k]? = -1 by rw [hlk]; rfl), ni_1]
        exact ih (k + 1) (by omega) d2 _ _ (GF_t g1 gf) (by omega) (by omega)
  exact loop (l.length + 1) 0 (by omega) d c s (GF_r d) (by omega) (by omega)
end ST1
