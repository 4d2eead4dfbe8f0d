/-! THE PROGRAM AGAINST THE REFERENCE, 67: the law's loop -/
section EC52
variable {n : Nat} {lk : Nat → Nat → Nat → Bool} {d : Nat → Nat → Nat → Int32} {o : Int64}
theorem lc_168 (hl : LK lk) (h : GI d) (hn : 402 ≤ n) {l i c s : Nat} (hL : d 104 0 0 = Int32.ofNat l) (hl3 : l ≤ 3072) (hi : i + 6 ≤ l) (hc : c + 4 ≤ 601024) (hs : s + 24 ≤ 7293033) (K : LWK lk d i c s) : ∃ μ, EV (243, 168, [ev_R 103 0, ev_R 27 0, ev_R 44 0, ev_R 61 0, ev_I (Int32.ofNat i)], [], c, s) (n, lk, d, o) = some (.inl (some (ev_I 1)), μ) := by
  obtain ⟨v, d1, d2, s1, s2, g2, ea, eb⟩ := op_append (x1 := d 103 0 (i + 1)) (x2 := d 103 0 (i + 2)) (x3 := d 103 0 (i + 3)) (x4 := d 103 0 (i + 4)) (x5 := d 103 0 (i + 5)) hl h n o hn
  obtain ⟨μ, e⟩ := K n d2 o ((c + 0) + 0) ((s + 0) + 0) hn g2 s2 (by omega) (by omega)
  refine ⟨μ, EV_bk (k := 400) ?_⟩
  rw [bk_243_168]
  simp only [ni_1, ni_2, ni_3, ni_4, ni_5, hL, ni_c (n := l) (by omega), ni_in (n := i + 1) (N := l) (by omega) (by omega), ni_c (n := i + 1) (by omega), ni_in (n := i + 2) (N := l) (by omega) (by omega), ni_c (n := i + 2) (by omega), ni_in (n := i + 3) (N := l) (by omega) (by omega), ni_c (n := i + 3) (by omega), ni_in (n := i + 4) (N := l) (by omega) (by omega), ni_c (n := i + 4) (by omega), ni_in (n := i + 5) (N := l) (by omega) (by omega), ni_c (n := i + 5) (by omega), Nat.ble_eq.mpr (show c + 0 ≤ 601024 by omega), Nat.ble_eq.mpr (show s + 0 ≤ 7293033 by omega), Nat.ble_eq.mpr (show (c + 0) + 0 ≤ 601024 by omega), Nat.ble_eq.mpr (show (s + 0) + 0 ≤ 7293033 by omega), cond_true, ea, ev_bi, s1.1, s1.2, eb, ↓reduceIte]
  exact e
theorem lc_1036 (hl : LK lk) (h : GI d) (hn : 402 ≤ n) {i c s : Nat} (hc : c + 4 ≤ 601024) (hs : s + 24 ≤ 7293033) (K : LWK lk d i c s) : ∃ μ, EV (243, 1036, [ev_R 103 0, ev_R 27 0, ev_R 44 0, ev_R 61 0, ev_I (Int32.ofNat i)], [], c, s) (n, lk, d, o) = some (.inl (some (ev_I 1)), μ) := by
  obtain ⟨v, d2, s2, g2, ea, eb⟩ := op_meanWait hl h
  obtain ⟨μ, e⟩ := K n d2 o ((c + 0) + 0) ((s + 0) + 0) hn g2 s2 (by omega) (by omega)
  refine ⟨μ, EV_bk (k := 400) ?_⟩
  rw [bk_243_1036]
  simp only [Nat.ble_eq.mpr (show c + 0 ≤ 601024 by omega), Nat.ble_eq.mpr (show s + 0 ≤ 7293033 by omega), Nat.ble_eq.mpr (show (c + 0) + 0 ≤ 601024 by omega), Nat.ble_eq.mpr (show (s + 0) + 0 ≤ 7293033 by omega), cond_true, ea n o, ev_bd, eb n o]
  by_cases z : Op.cmpValue (FP.dcmp v v) .l = 0
  · rw [if_pos z]
    exact e
  · rw [if_neg z, if_neg z, if_neg z]
    exact e
theorem lc_1419 (hl : LK lk) (h : GI d) (hn : 402 ≤ n) {l i c s : Nat} (hL : d 104 0 0 = Int32.ofNat l) (hl3 : l ≤ 3072) (hi : i + 6 ≤ l) (hc : c + 4 ≤ 601024) (hs : s + 24 ≤ 7293033) (K : LWK lk d i c s) : ∃ μ, EV (243, 1419, [ev_R 103 0, ev_R 27 0, ev_R 44 0, ev_R 61 0, ev_I (Int32.ofNat i)], [], c, s) (n, lk, d, o) = some (.inl (some (ev_I 1)), μ) := by
  by_cases z : d 103 0 (i + 1) = 0
  · obtain ⟨v, d1, d2, s1, s2, g2, ea, eb⟩ := op_setTrading hl h (x := 0) (.inl rfl) n o hn
    obtain ⟨μ, e⟩ := K n d2 o ((c + 0) + 0) ((s + 0) + 0) hn g2 s2 (by omega) (by omega)
    refine ⟨μ, EV_bk (k := 400) ?_⟩
    rw [bk_243_1419]
    simp only [ni_1, hL, ni_c (n := l) (by omega), ni_in (n := i + 1) (N := l) (by omega) (by omega), ni_c (n := i + 1) (by omega), z, Nat.ble_eq.mpr (show c + 0 ≤ 601024 by omega), Nat.ble_eq.mpr (show s + 0 ≤ 7293033 by omega), Nat.ble_eq.mpr (show (c + 0) + 0 ≤ 601024 by omega), Nat.ble_eq.mpr (show (s + 0) + 0 ≤ 7293033 by omega), cond_true, ↓reduceIte, ea, ev_bi, s1.1, s1.2, eb]
    exact e
  · obtain ⟨v, d1, d2, s1, s2, g2, ea, eb⟩ := op_setTrading hl h (x := 1) (.inr rfl) n o hn
    obtain ⟨μ, e⟩ := K n d2 o ((c + 0) + 0) ((s + 0) + 0) hn g2 s2 (by omega) (by omega)
    refine ⟨μ, EV_bk (k := 400) ?_⟩
    rw [bk_243_1419]
    simp only [ni_1, hL, ni_c (n := l) (by omega), ni_in (n := i + 1) (N := l) (by omega) (by omega), ni_c (n := i + 1) (by omega), z, Nat.ble_eq.mpr (show c + 0 ≤ 601024 by omega), Nat.ble_eq.mpr (show s + 0 ≤ 7293033 by omega), Nat.ble_eq.mpr (show (c + 0) + 0 ≤ 601024 by omega), Nat.ble_eq.mpr (show (s + 0) + 0 ≤ 7293033 by omega), cond_true, ↓reduceIte, ea, ev_bi, s1.1, s1.2, eb]
    exact e
theorem lc_1473 (hl : LK lk) (h : GI d) (hn : 402 ≤ n) {l i c s : Nat} (hL : d 104 0 0 = Int32.ofNat l) (hl3 : l ≤ 3072) (hi : i + 6 ≤ l) (hc : c + 4 ≤ 601024) (hs : s + 24 ≤ 7293033) (K : LWK lk d i c s) : ∃ μ, EV (243, 1473, [ev_R 103 0, ev_R 27 0, ev_R 44 0, ev_R 61 0, ev_I (Int32.ofNat i)], [], c, s) (n, lk, d, o) = some (.inl (some (ev_I 1)), μ) := by
  rcases op_save hl h (x := d 103 0 (i + 1)) n o hn with ⟨v, d1, d2, hv, s1, s2, g2, t2, ea, eb⟩ | ⟨E, v, d2, s2, g2, t2, h3, hk, ea, eb⟩
  · obtain ⟨μ, e⟩ := K n d2 v.toInt64 (((c + 1) + 0) + 0) (((s + 6) + 0) + 0) hn g2 s2 (by omega) (by omega)
    have ew : EV (241, 0, [ev_R 27 0, ev_I (d 103 0 (i + 1)), ev_R 61 0], [], 0, 0) (n, lk, d, o) = some (.inl (some (ev_I 0)), (n, lk, d1, v.toInt64)) := by
      refine EV_bk (k := 400) ?_
      rw [bk_241_0, ea]
      rcases hv with z | z <;> subst z <;> rfl
    refine ⟨μ, EV_bk (k := 400) ?_⟩
    rw [bk_243_1473]
    simp only [ni_1, hL, ni_c (n := l) (by omega), ni_in (n := i + 1) (N := l) (by omega) (by omega), ni_c (n := i + 1) (by omega), Nat.ble_eq.mpr (show c + 1 ≤ 601024 by omega), Nat.ble_eq.mpr (show s + 6 ≤ 7293033 by omega), Nat.ble_eq.mpr (show (c + 1) + 0 ≤ 601024 by omega), Nat.ble_eq.mpr (show (s + 6) + 0 ≤ 7293033 by omega), Nat.ble_eq.mpr (show ((c + 1) + 0) + 0 ≤ 601024 by omega), Nat.ble_eq.mpr (show ((s + 6) + 0) + 0 ≤ 7293033 by omega), cond_true, ew, ev_bi, s1.1, s1.2, eb, em_thrown, t2, ↓reduceIte]
    rcases hv with z | z
    · subst z
      rw [if_pos rfl, if_pos (by decide)]
      exact e
    · subst z
      rw [if_neg (by decide), if_pos (by decide)]
      exact e
  · obtain ⟨μ, e⟩ := K (n + 1000) d2 o (((c + 1) + 0) + 0) (((s + 6) + 0) + 0) (by omega) g2 s2 (by omega) (by omega)
    have ew : EV (241, 0, [ev_R 27 0, ev_I (d 103 0 (i + 1)), ev_R 61 0], [], 0, 0) (n, lk, d, o) = some (.inl (some (ev_I (kf_C E))), (n + 1000, lk, d, o)) := by
      refine EV_bk (k := 400) ?_
      rw [bk_241_0, ea]
      match E, h3, hk with
      | 0, _, hk => exact absurd rfl hk
      | 1, _, _ => rfl
      | 2, _, hk => exact absurd rfl hk
    refine ⟨μ, EV_bk (k := 400) ?_⟩
    rw [bk_243_1473]
    simp only [ni_1, hL, ni_c (n := l) (by omega), ni_in (n := i + 1) (N := l) (by omega) (by omega), ni_c (n := i + 1) (by omega), Nat.ble_eq.mpr (show c + 1 ≤ 601024 by omega), Nat.ble_eq.mpr (show s + 6 ≤ 7293033 by omega), Nat.ble_eq.mpr (show (c + 1) + 0 ≤ 601024 by omega), Nat.ble_eq.mpr (show (s + 6) + 0 ≤ 7293033 by omega), Nat.ble_eq.mpr (show ((c + 1) + 0) + 0 ≤ 601024 by omega), Nat.ble_eq.mpr (show ((s + 6) + 0) + 0 ≤ 7293033 by omega), cond_true, ew, ev_bi, eb, em_thrown, t2, ↓reduceIte, hk]
    exact e
theorem lw_loop (hl : LK lk) {l : Nat} (hl3 : l ≤ 3072) : ∀ f i n (d : Nat → Nat → Nat → Int32) o c s, l ≤ i + 6 * f → d 104 0 0 = Int32.ofNat l → 402 ≤ n → GI d → c + 4 * f + 4 ≤ 601024 → s + 24 * f + 24 ≤ 7293033 → i ≤ 3100 →
    ∃ μ, EV (243, 23, [ev_R 103 0, ev_R 27 0, ev_R 44 0, ev_R 61 0, ev_I (Int32.ofNat i)], [], c, s) (n, lk, d, o) = some (.inl (some (ev_I 1)), μ) := by
  have stop : ∀ i n (d : Nat → Nat → Nat → Int32) o c s, d 104 0 0 = Int32.ofNat l → ¬ i + 6 ≤ l → i ≤ 3100 → ∃ μ, EV (243, 23, [ev_R 103 0, ev_R 27 0, ev_R 44 0, ev_R 61 0, ev_I (Int32.ofNat i)], [], c, s) (n, lk, d, o) = some (.inl (some (ev_I 1)), μ) := by
    intro i n d o c s hL hi h31
    refine ⟨(n, lk, d, o), EV_bk (k := 400) ?_⟩
    rw [bk_243_23, if_neg (show ¬ Int32.ofNat i ≤ d 104 0 0 - 6 by
      rw [hL, i32_le]
      have e6 : (6 : Int32).toInt = 6 := by decide
      rw [i32_sub (by rw [ni_t (by omega), e6]; omega) (by rw [ni_t (by omega), e6]; omega), ni_t (by omega), ni_t (by omega), e6]
      omega)]
  intro f
  induction f with
  | zero =>
    intro i n d o c s hf hL hn h hc hs h31
    exact stop i n d o c s hL (by omega) h31
  | succ f ih =>
    intro i n d o c s hf hL hn h hc hs h31
    by_cases hi : i + 6 ≤ l
    · have K : LWK lk d i c s := fun n' d' o' c' s' hn' g' sc hc' hs' => by
        rw [ni_6]
        exact ih (i + 6) n' d' o' c' s' (by omega) (by rw [sc.2, hL]) hn' g' (by omega) (by omega) (by omega)
      have hle : Int32.ofNat i ≤ d 104 0 0 - 6 := by
        rw [hL, i32_le]
        have e6 : (6 : Int32).toInt = 6 := by decide
        rw [i32_sub (by rw [ni_t (by omega), e6]; omega) (by rw [ni_t (by omega), e6]; omega), ni_t (by omega), ni_t (by omega), e6]
        omega
      have go : ∀ t : ev_T, (∃ μ, t = some (.inl (some (ev_I 1)), μ)) → ev_bk 400 EV (243, 23, [ev_R 103 0, ev_R 27 0, ev_R 44 0, ev_R 61 0, ev_I (Int32.ofNat i)], [], c, s) (n, lk, d, o) = t → ∃ μ, EV (243, 23, [ev_R 103 0, ev_R 27 0, ev_R 44 0, ev_R 61 0, ev_I (Int32.ofNat i)], [], c, s) (n, lk, d, o) = some (.inl (some (ev_I 1)), μ) := fun t ⟨μ, e⟩ e2 => ⟨μ, EV_bk (k := 400) (e2.trans e)⟩
      have hb := bk_243_23 (r := EV) (n := n) (lk := lk) (d := d) (o := o) (Int32.ofNat i) c s
      rw [if_pos hle] at hb
      simp only [hL, ni_c (n := l) (by omega), ni_in (n := i) (N := l) (by omega) (by omega), cond_true] at hb
      refine go _ ?_ hb
      generalize (d 103 0 (Int32.ofNat i).toNatClampNeg &&& 31) = q
      by_cases q0 : q = 0
      · rw [if_pos q0]
        exact lc_168 (n := n) (o := o) hl h hn hL hl3 hi (by omega) (by omega) K
      rw [if_neg q0]
      by_cases q1 : q = 1
      · rw [if_pos q1]
        exact lc_241 (n := n) (o := o) hl h hn hL hl3 hi (by omega) (by omega) K
      rw [if_neg q1]
      by_cases q2 : q = 2
      · rw [if_pos q2]
        exact lc_297 (n := n) (o := o) hl h hn (c := c) (s := s) (i := i) (by omega) (by omega) K
      rw [if_neg q2]
      by_cases q3 : q = 3
      · rw [if_pos q3]
        exact lc_310 (n := n) (o := o) hl h hn hL hl3 hi (by omega) (by omega) K
      rw [if_neg q3]
      by_cases q4 : q = 4
      · rw [if_pos q4]
        exact lc_366 (n := n) (o := o) hl h hn hL hl3 hi (by omega) (by omega) K
      rw [if_neg q4]
      by_cases q5 : q = 5
      · rw [if_pos q5]
        exact lc_422 (n := n) (o := o) hl h hn hL hl3 hi (by omega) (by omega) K
      rw [if_neg q5]
      by_cases q6 : q = 6
      · rw [if_pos q6]
        exact lc_490 (n := n) (o := o) hl h hn hL hl3 hi (by omega) (by omega) K
      rw [if_neg q6]
      by_cases q7 : q = 7
      · rw [if_pos q7]
        exact lc_570 (n := n) (o := o) hl h hn hL hl3 hi (by omega) (by omega) K
      rw [if_neg q7]
      by_cases q8 : q = 8
      · rw [if_pos q8]
        exact lc_638 (n := n) (o := o) hl h hn hL hl3 hi (by omega) (by omega) K
      rw [if_neg q8]
      by_cases q9 : q = 9
      · rw [if_pos q9]
        exact lc_706 (n := n) (o := o) hl h hn (c := c) (s := s) (i := i) (by omega) (by omega) K
      rw [if_neg q9]
      by_cases q10 : q = 10
      · rw [if_pos q10]
        exact lc_719 (n := n) (o := o) hl h hn hL hl3 hi (by omega) (by omega) K
      rw [if_neg q10]
      by_cases q11 : q = 11
      · rw [if_pos q11]
        exact lc_787 (n := n) (o := o) hl h hn (c := c) (s := s) (i := i) (by omega) (by omega) K
      rw [if_neg q11]
      by_cases q12 : q = 12
      · rw [if_pos q12]
        exact lc_800 (n := n) (o := o) hl h hn hL hl3 hi (by omega) (by omega) K
      rw [if_neg q12]
      by_cases q13 : q = 13
      · rw [if_pos q13]
        exact lc_856 (n := n) (o := o) hl h hn hL hl3 hi (by omega) (by omega) K
      rw [if_neg q13]
      by_cases q14 : q = 14
      · rw [if_pos q14]
        exact lc_924 (n := n) (o := o) hl h hn hL hl3 hi (by omega) (by omega) K
      rw [if_neg q14]
      by_cases q15 : q = 15
      · rw [if_pos q15]
        exact lc_980 (n := n) (o := o) hl h hn hL hl3 hi (by omega) (by omega) K
      rw [if_neg q15]
      by_cases q16 : q = 16
      · rw [if_pos q16]
        exact lc_1036 (n := n) (o := o) hl h hn (c := c) (s := s) (i := i) (by omega) (by omega) K
      rw [if_neg q16]
      by_cases q17 : q = 17
      · rw [if_pos q17]
        exact lc_1077 (n := n) (o := o) hl h hn (c := c) (s := s) (i := i) (by omega) (by omega) K
      rw [if_neg q17]
      by_cases q18 : q = 18
      · rw [if_pos q18]
        exact lc_1090 (n := n) (o := o) hl h hn (c := c) (s := s) (i := i) (by omega) (by omega) K
      rw [if_neg q18]
      by_cases q19 : q = 19
      · rw [if_pos q19]
        exact lc_1103 (n := n) (o := o) hl h hn hL hl3 hi (by omega) (by omega) K
      rw [if_neg q19]
      by_cases q20 : q = 20
      · rw [if_pos q20]
        exact lc_1159 (n := n) (o := o) hl h hn hL hl3 hi (by omega) (by omega) K
      rw [if_neg q20]
      by_cases q21 : q = 21
      · rw [if_pos q21]
        exact lc_1215 (n := n) (o := o) hl h hn hL hl3 hi (by omega) (by omega) K
      rw [if_neg q21]
      by_cases q22 : q = 22
      · rw [if_pos q22]
        exact lc_1283 (n := n) (o := o) hl h hn hL hl3 hi (by omega) (by omega) K
      rw [if_neg q22]
      by_cases q23 : q = 23
      · rw [if_pos q23]
        exact lc_1351 (n := n) (o := o) hl h hn hL hl3 hi (by omega) (by omega) K
      rw [if_neg q23]
      by_cases q24 : q = 24
      · rw [if_pos q24]
        exact lc_1419 (n := n) (o := o) hl h hn hL hl3 hi (by omega) (by omega) K
      rw [if_neg q24]
      by_cases q25 : q = 25
      · rw [if_pos q25]
        exact lc_1460 (n := n) (o := o) hl h hn (c := c) (s := s) (i := i) (by omega) (by omega) K
      rw [if_neg q25]
      by_cases q26 : q = 26
      · rw [if_pos q26]
        exact lc_1473 (n := n) (o := o) hl h hn hL hl3 hi (by omega) (by omega) K
      rw [if_neg q26]
      by_cases q27 : q = 27
      · rw [if_pos q27]
        exact lc_1536 (n := n) (o := o) hl h hn hL hl3 hi (by omega) (by omega) K
      rw [if_neg q27]
      exact K n d o c s hn h (SC_r d) (by omega) (by omega)
    · exact stop i n d o c s hL hi h31
end EC52
