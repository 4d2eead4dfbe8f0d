/-! THE LAW'S METHODS, 21: the builder of texts takes a string, a number, a letter -/
theorem dz_all : ∀ v, v < 100 → ¬ Int32.ofNat v < 0 ∧ ¬ -Int32.ofNat v ≤ (-100 : Int32) ∧ (-Int32.ofNat v ≤ (-10 : Int32) ↔ 10 ≤ v) ∧ (-Int32.ofNat v < (-9 : Int32) ↔ 10 ≤ v) ∧ -(-Int32.ofNat v) = Int32.ofNat v ∧ (ev_dg 0 v).toInt8.toInt32 = Int32.ofNat (48 + v % 10) ∧ (ev_dg 1 v).toInt8.toInt32 = Int32.ofNat (48 + v / 10) := by decide +kernel
theorem dg_len (v : Nat) : (dg v).length = if v < 10 then 1 else 2 := by
  unfold dg
  by_cases c : v < 10
  · rw [if_pos c, if_pos c]
    rfl
  · rw [if_neg c, if_neg c]
    rfl
section SBA
variable {i w h cap : Nat} {lk : Nat → Nat → Nat → Bool} {d e : Nat → Nat → Nat → Int32} {t : Nat → Nat} {q : Nat → Nat → Nat → Nat} {L : List Int32}
theorem sb_232 (h4 : e 213 i 1 = 0) : EV (232, 0, [ev_R 213 i], [], 0, 0) (384, lk, d, w, t, e, q) = some (.inl (some (ev_I 1)), (384, lk, d, w, t, e, q)) := EV_bk (k := 400) (by rw [bk_232_0, if_pos h4])
/-- string j is written behind what is there -/
theorem sb_233 {j : Nat} (hs : SB i w e q h cap L) (hm : L.length + ev_sl j ≤ cap) : ∃ e', EV (233, 0, [ev_R 213 i, ev_I (Int32.ofNat L.length), ev_R 100 j], [], 0, 0) (384, lk, d, w, t, e, q) = some (.inl none, (384, lk, d, w, t, e', q)) ∧ (∀ r x p, ¬ (r = 214 ∧ x = h) → e' r x p = e r x p) ∧ ∀ k, k < (L ++ sbl j).length → e' 214 h k = (L ++ sbl j).getD k 0 := by
  obtain ⟨s1, s2, s3, s4, s5, s6, s7, s8, s9⟩ := hs
  have e4 : EV (4, 0, [ev_R 100 j], [], 0, 0) (384, lk, d, w, t, e, q) = some (.inl (some (ev_I 0)), (384, lk, d, w, t, e, q)) := EV_bk (k := 400) (by rw [bk_4_0])
  have e234 : EV (234, 0, [ev_R 213 i, ev_R 100 j], [], 0, 0) (384, lk, d, w, t, e, q) = some (.inl none, (384, lk, d, w, t, e, q)) := by
    refine EV_bk (k := 400) ?_
    rw [bk_234_0, e4, bi_ok, s4, if_pos rfl]
  have e235 : EV (235, 0, [ev_R 100 j, ev_R 214 h, ev_I (Int32.ofNat L.length), ev_I 0], [], 0, 0) (384, lk, d, w, t, e, q) = some (.inl none, (384, lk, d, w, t, ev_w3 e 214 h (va_cpy (ev_sb j) (e 214 h) 0 L.length (ev_sl j)), q)) := by
    refine EV_bk (k := 400) ?_
    rw [bk_235_0, e4, bi_ok, if_pos rfl]
    simp only [sh0l, s6, ni_ng (show L.length < 2147483648 by omega), ni_ng (show ev_sl j < 2147483648 by omega), ni_c (show L.length < 2147483648 by omega), ni_c (show ev_sl j < 2147483648 by omega), ni_c (show cap < 2147483648 by omega), Nat.zero_add, ble1 (show ev_sl j ≤ ev_sl j from Nat.le_refl _), ble1 hm, Bool.and_true, cond_true]
  refine ⟨ev_w3 e 214 h (va_cpy (ev_sb j) (e 214 h) 0 L.length (ev_sl j)), EV_bk (k := 400) ?_, fun r x p hn => w3_ne hn, fun k hk => ?_⟩
  · rw [bk_233_0, e234, bv_ok]
    simp only [s1, ev_lq_s, s4]
    rw [e235, bv_ok]
  · rw [w3_eq ⟨rfl, rfl⟩]
    unfold va_cpy
    rw [List.length_append, sbl_len] at hk
    by_cases c : k < L.length
    · rw [if_neg (by omega), gD_app c, s9 k c]
    · obtain ⟨x, rfl⟩ : ∃ x, k = L.length + x := ⟨k - L.length, by omega⟩
      rw [if_pos (by omega), gD_ge, sbl_get]
      congr 1
      omega
/-- a string is written -/
theorem sb_str {j : Nat} (hs : SB i w e q h cap L) (hc : 0 < cap) (hm : L.length + ev_sl j ≤ 600) : ∃ w' t' e' q' h' c', EV (226, 0, [ev_R 213 i, ev_R 100 j], [], 0, 0) (384, lk, d, w, t, e, q) = some (.inl (some (ev_R 213 i)), (384, lk, d, w', t', e', q')) ∧ BF i w e q w' e' q' ∧ SB i w' e' q' h' c' (L ++ sbl j) ∧ 0 < c' := by
  obtain ⟨w1, t1, e1, q1, h1, c1, ev1, bf1, sb1, hc1, hc0⟩ := sb_room (lk := lk) (d := d) (t := t) hs hc hm
  obtain ⟨e2, ev2, f2, g2⟩ := sb_233 (lk := lk) (d := d) (t := t1) (j := j) sb1 hc1
  have hll : (L ++ sbl j).length = L.length + ev_sl j := by rw [List.length_append, sbl_len]
  have s5 := hs.2.2.2.2.1
  obtain ⟨r1, r2, r3, r4, r5, r6, r7, r8, r9⟩ := sb1
  refine ⟨w1, t1, ev_u3 e2 213 i 3 (Int32.ofNat (L ++ sbl j).length), q1, h1, c1, EV_bk (k := 400) ?_, ⟨bf1.1, fun r x p hx hr hn => ?_, bf1.2.2⟩, ⟨r1, r2, r3, ?_, ?_, ?_, by omega, r8, fun k hk => ?_⟩, hc0⟩
  · have e227 : EV (227, 0, [ev_R 213 i, ev_R 100 j], [], 0, 0) (384, lk, d, w, t, e, q) = some (.inl (some (ev_R 213 i)), (384, lk, d, w1, t1, ev_u3 e2 213 i 3 (Int32.ofNat (L ++ sbl j).length), q1)) := by
      refine EV_bk (k := 400) ?_
      rw [bk_227_0, em_slen, bi_ok]
      simp only [s5]
      rw [ni_a, ev1, bv_ok]
      simp only [r5]
      rw [ev2, bv_ok]
      simp only [f2 213 i 3 (by omega), r5]
      rw [ni_a, hll]
    rw [bk_226_0, e227, br_ok]
    rfl
  · rw [u3_ne (by omega), f2 r x p (by omega), bf1.2.1 r x p hx hr hn]
  · rw [u3_ne (by omega), f2 213 i 1 (by omega), r4]
  · rw [u3_eq ⟨rfl, rfl, rfl⟩]
  · rw [u3_ne (by omega), f2 199 h1 0 (by omega), r6]
  · rw [u3_ne (by omega), g2 k hk]
/-- a letter is written: a blank or a semicolon -/
theorem sb_chr {x : Int32} (hx : x = 32 ∨ x = 59) (hs : SB i w e q h cap L) (hc : 0 < cap) (hm : L.length + 1 ≤ 600) : ∃ w' t' e' q' h' c', EV (240, 0, [ev_R 213 i, ev_I x], [], 0, 0) (384, lk, d, w, t, e, q) = some (.inl (some (ev_R 213 i)), (384, lk, d, w', t', e', q')) ∧ BF i w e q w' e' q' ∧ SB i w' e' q' h' c' (L ++ [x]) ∧ 0 < c' := by
  obtain ⟨w1, t1, e1, q1, h1, c1, ev1, bf1, sb1, hc1, hc0⟩ := sb_room (lk := lk) (d := d) (t := t) hs hc hm
  have hll : (L ++ [x]).length = L.length + 1 := List.length_append
  have s5 := hs.2.2.2.2.1
  obtain ⟨r1, r2, r3, r4, r5, r6, r7, r8, r9⟩ := sb1
  have x8 : ((x).toInt8.toInt32).toInt8.toInt32 = x := by
    rcases hx with rfl | rfl <;> decide
  have e242 : EV (242, 0, [ev_I x], [], 0, 0) (384, lk, d, w1, t1, e1, q1) = some (.inl (some (ev_I 1)), (384, lk, d, w1, t1, e1, q1)) := EV_bk (k := 400) (by
    rw [bk_242_0, if_pos (by rcases hx with rfl | rfl <;> decide)])
  refine ⟨w1, t1, ev_u3 (ev_u3 e1 213 i 3 (Int32.ofNat (L ++ [x]).length)) 214 h1 L.length x, q1, h1, c1, EV_bk (k := 400) ?_, ⟨bf1.1, fun r y p hy hr hn => ?_, bf1.2.2⟩, ⟨r1, r2, r3, ?_, ?_, ?_, by omega, r8, fun k hk => ?_⟩, hc0⟩
  · have e241 : EV (241, 0, [ev_R 213 i, ev_I x], [], 0, 0) (384, lk, d, w, t, e, q) = some (.inl (some (ev_R 213 i)), (384, lk, d, w1, t1, ev_u3 (ev_u3 e1 213 i 3 (Int32.ofNat (L ++ [x]).length)) 214 h1 L.length x, q1)) := by
      refine EV_bk (k := 400) ?_
      rw [bk_241_0, s5, ni_1, ev1, bv_ok, sb_232 r4, bi_ok, if_neg (by decide), e242, bi_ok, if_neg (by decide)]
      simp only [r1, ev_lq_s, r5, r6, ni_c (show c1 < 2147483648 by omega), ni_c (show L.length < 2147483648 by omega), x8, ni_1, ni_in (show L.length < c1 by omega) (show c1 < 2147483648 by omega), cond_true, hll]
    rw [bk_240_0, e241, br_ok]
    rfl
  · rw [u3_ne (by omega), u3_ne (by omega), bf1.2.1 r y p hy hr hn]
  · rw [u3_ne (by omega), u3_ne (by omega), r4]
  · rw [u3_ne (by omega), u3_eq ⟨rfl, rfl, rfl⟩]
  · rw [u3_ne (by omega), u3_ne (by omega), r6]
  · rw [hll] at hk
    by_cases c : k < L.length
    · rw [u3_ne (by omega), u3_ne (by omega), gD_app c, r9 k c]
    · have : k = L.length + 0 := by omega
      rw [u3_eq ⟨rfl, rfl, by omega⟩, this, gD_ge]
      rfl
theorem sb_238 {v : Nat} (hv : v < 100) : EV (238, 0, [ev_I (Int32.ofNat v)], [], 0, 0) (384, lk, d, w, t, e, q) = some (.inl (some (ev_I (Int32.ofNat (dg v).length))), (384, lk, d, w, t, e, q)) := by
  obtain ⟨z1, z2, z3, -⟩ := dz_all v hv
  rw [dg_len]
  refine EV_bk (k := 400) ?_
  rw [bk_238_0, if_neg z1]
  refine EV_bk (k := 400) ?_
  rw [bk_238_16, if_pos (by decide)]
  by_cases c : v < 10
  · rw [if_neg (fun y => by have := z3.mp y; omega), if_pos c]
    rfl
  · rw [if_pos (z3.mpr (by omega)), if_neg c]
    refine EV_bk (k := 400) ?_
    rw [bk_238_16, if_pos (by decide), if_neg (by rw [show (10 : Int32) * (-10 : Int32) = -100 from by decide]; exact z2)]
    rfl
/-- the digits of a number before place m -/
theorem sb_239 {v m : Nat} (hv : v < 100) (s6 : e 199 h 0 = Int32.ofNat cap) (h0 : (dg v).length ≤ m) (h1 : m ≤ cap) (h2 : cap ≤ 1300) : ∃ e' z, EV (239, 0, [ev_I (Int32.ofNat v), ev_I (Int32.ofNat m), ev_R 214 h], [], 0, 0) (384, lk, d, w, t, e, q) = some (.inl (some (ev_I z)), (384, lk, d, w, t, e', q)) ∧ (∀ r x p, ¬ (r = 214 ∧ x = h ∧ m - (dg v).length ≤ p ∧ p < m) → e' r x p = e r x p) ∧ ∀ k, k < (dg v).length → e' 214 h (m - (dg v).length + k) = (dg v).getD k 0 := by
  obtain ⟨z1, z2, z3, z4, z5, z6, z7⟩ := dz_all v hv
  rw [dg_len] at h0 ⊢
  have m1 : Int32.ofNat m + (-1 : Int32) = Int32.ofNat (m - 1) := by
    have : 1 ≤ m := by split at h0 <;> omega
    rw [← ni_sb this]
    exact (Int32.sub_eq_add_neg _ _).symm
  by_cases c : v < 10
  · rw [if_pos c] at h0 ⊢
    refine ⟨ev_u3 e 214 h (m - 1) (Int32.ofNat (48 + v % 10)), Int32.ofNat (m - 1), EV_bk (k := 400) ?_, fun r x p hn => u3_ne (by omega), fun k hk => ?_⟩
    · rw [bk_239_0, if_neg z1, if_neg z2, m1]
      refine EV_bk (k := 400) ?_
      rw [bk_239_76]
      simp only [z5, s6, ni_c (show cap < 2147483648 by omega), ni_c (show v < 2147483648 by omega), ni_c (show m - 1 < 2147483648 by omega), z6, ni_in (show v < 100 by omega) (show 100 < 2147483648 by omega), ni_in (show m - 1 < cap by omega) (show cap < 2147483648 by omega), cond_true]
      rw [if_neg (fun y => by have := z4.mp y; omega), if_pos trivial]
    · have : k = 0 := by omega
      subst this
      rw [u3_eq ⟨rfl, rfl, by omega⟩]
      unfold dg
      rw [if_pos c, show v % 10 = v by omega]
      rfl
  · rw [if_neg c] at h0 ⊢
    have m2 : Int32.ofNat (m - 1) + (-1 : Int32) = Int32.ofNat (m - 2) := by
      have : 1 ≤ m - 1 := by omega
      rw [show m - 2 = m - 1 - 1 by omega, ← ni_sb this]
      exact (Int32.sub_eq_add_neg _ _).symm
    refine ⟨ev_u3 (ev_u3 e 214 h (m - 1) (Int32.ofNat (48 + v % 10))) 214 h (m - 2) (Int32.ofNat (48 + v / 10)), Int32.ofNat (m - 2), EV_bk (k := 400) ?_, fun r x p hn => by rw [u3_ne (by omega), u3_ne (by omega)], fun k hk => ?_⟩
    · rw [bk_239_0, if_neg z1, if_neg z2, m1]
      refine EV_bk (k := 400) ?_
      rw [bk_239_76]
      simp only [z5, s6, ni_c (show cap < 2147483648 by omega), ni_c (show v < 2147483648 by omega), ni_c (show m - 1 < 2147483648 by omega), z6, ni_in (show v < 100 by omega) (show 100 < 2147483648 by omega), ni_in (show m - 1 < cap by omega) (show cap < 2147483648 by omega), cond_true]
      rw [if_pos (z4.mpr (by omega)), m2]
      refine EV_bk (k := 400) ?_
      have x199 : (ev_u3 e 214 h (m - 1) (Int32.ofNat (48 + v % 10))) 199 h 0 = Int32.ofNat cap := by rw [u3_ne (by omega), s6]
      rw [bk_239_95]
      simp only [z5, x199, ni_c (show cap < 2147483648 by omega), ni_c (show v < 2147483648 by omega), ni_c (show m - 2 < 2147483648 by omega), z7, ni_in (show v < 100 by omega) (show 100 < 2147483648 by omega), ni_in (show m - 2 < cap by omega) (show cap < 2147483648 by omega), cond_true]
      rw [if_pos trivial]
    · unfold dg
      rw [if_neg c]
      by_cases k0 : k = 0
      · subst k0
        rw [u3_eq ⟨rfl, rfl, by omega⟩]
        rfl
      · have : k = 1 := by omega
        subst this
        rw [u3_ne (by omega), u3_eq ⟨rfl, rfl, by omega⟩]
        rfl
/-- a number is written -/
theorem sb_num {v : Nat} (hv : v < 100) (hs : SB i w e q h cap L) (hc : 0 < cap) (hm : L.length + 2 ≤ 600) : ∃ w' t' e' q' h' c', EV (236, 0, [ev_R 213 i, ev_I (Int32.ofNat v)], [], 0, 0) (384, lk, d, w, t, e, q) = some (.inl (some (ev_R 213 i)), (384, lk, d, w', t', e', q')) ∧ BF i w e q w' e' q' ∧ SB i w' e' q' h' c' (L ++ dg v) ∧ 0 < c' := by
  have hdl : (dg v).length ≤ 2 := by
    rw [dg_len]
    split <;> omega
  obtain ⟨w1, t1, e1, q1, h1, c1, ev1, bf1, sb1, hc1, hc0⟩ := sb_room (lk := lk) (d := d) (t := t) (m := L.length + (dg v).length) hs hc (by omega)
  have hll : (L ++ dg v).length = L.length + (dg v).length := List.length_append
  have s5 := hs.2.2.2.2.1
  obtain ⟨r1, r2, r3, r4, r5, r6, r7, r8, r9⟩ := sb1
  obtain ⟨e2, z, ev2, f2, g2⟩ := sb_239 (lk := lk) (d := d) (w := w1) (t := t1) (q := q1) hv r6 (m := L.length + (dg v).length) (by omega) hc1 r8
  rw [Nat.add_sub_cancel] at g2 f2
  refine ⟨w1, t1, ev_u3 e2 213 i 3 (Int32.ofNat (L ++ dg v).length), q1, h1, c1, EV_bk (k := 400) ?_, ⟨bf1.1, fun r x p hx hr hn => ?_, bf1.2.2⟩, ⟨r1, r2, r3, ?_, ?_, ?_, by omega, r8, fun k hk => ?_⟩, hc0⟩
  · have e237 : EV (237, 0, [ev_R 213 i, ev_I (Int32.ofNat v)], [], 0, 0) (384, lk, d, w, t, e, q) = some (.inl (some (ev_R 213 i)), (384, lk, d, w1, t1, ev_u3 e2 213 i 3 (Int32.ofNat (L ++ dg v).length), q1)) := by
      refine EV_bk (k := 400) ?_
      rw [bk_237_0, sb_238 hv, bi_ok, s5, ni_a, ev1, bv_ok, sb_232 r4, bi_ok, if_neg (by decide)]
      simp only [r1, ev_lq_s]
      rw [ev2, bi_ok, hll]
    rw [bk_236_0, e237, br_ok]
    rfl
  · rw [u3_ne (by omega), f2 r x p (by omega), bf1.2.1 r x p hx hr hn]
  · rw [u3_ne (by omega), f2 213 i 1 (by omega), r4]
  · rw [u3_eq ⟨rfl, rfl, rfl⟩]
  · rw [u3_ne (by omega), f2 199 h1 0 (by omega), r6]
  · rw [hll] at hk
    rw [u3_ne (by omega)]
    by_cases c : k < L.length
    · rw [f2 214 h1 k (by omega), gD_app c, r9 k c]
    · obtain ⟨x, rfl⟩ : ∃ x, k = L.length + x := ⟨k - L.length, by omega⟩
      rw [gD_ge, g2 x (by omega)]
end SBA
