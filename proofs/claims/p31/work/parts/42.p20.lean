/-! THE LAW'S METHODS, 20: the builder of texts -/
/-- what was made before stays, but for the builder i and arrays of bytes -/
def BF (i w : Nat) (e : Nat → Nat → Nat → Int32) (q : Nat → Nat → Nat → Nat) (w' : Nat) (e' : Nat → Nat → Nat → Int32) (q' : Nat → Nat → Nat → Nat) : Prop :=
  w ≤ w' ∧ (∀ r x p, x < w → r ≠ 214 → ¬ (r = 213 ∧ x = i) → e' r x p = e r x p) ∧ ∀ r x p, x < w → ¬ (r = 213 ∧ x = i) → q' r x p = q r x p
theorem BF.rf {i w : Nat} {e : Nat → Nat → Nat → Int32} {q : Nat → Nat → Nat → Nat} : BF i w e q w e q := ⟨Nat.le_refl _, fun _ _ _ _ _ _ => rfl, fun _ _ _ _ _ => rfl⟩
theorem BF.tr {i w w' w'' : Nat} {e e' e'' : Nat → Nat → Nat → Int32} {q q' q'' : Nat → Nat → Nat → Nat} (h : BF i w e q w' e' q') (h' : BF i w' e' q' w'' e'' q'') : BF i w e q w'' e'' q'' :=
  ⟨Nat.le_trans h.1 h'.1, fun r x p h1 h2 h3 => (h'.2.1 r x p (Nat.lt_of_lt_of_le h1 h.1) h2 h3).trans (h.2.1 r x p h1 h2 h3), fun r x p h1 h3 => (h'.2.2 r x p (Nat.lt_of_lt_of_le h1 h.1) h3).trans (h.2.2 r x p h1 h3)⟩
/-- builder i holds the text L in the array h of size cap -/
def SB (i w : Nat) (e : Nat → Nat → Nat → Int32) (q : Nat → Nat → Nat → Nat) (h cap : Nat) (L : List Int32) : Prop :=
  q 213 i 0 = h + 1 ∧ h < w ∧ i < w ∧ e 213 i 1 = 0 ∧ e 213 i 3 = Int32.ofNat L.length ∧ e 199 h 0 = Int32.ofNat cap ∧ L.length ≤ cap ∧ cap ≤ 1300 ∧ ∀ k, k < L.length → e 214 h k = L.getD k 0
theorem sh0l (x : Int32) : x <<< ((0 : Int32) &&& 31) = x := by
  rw [show ((0 : Int32) &&& 31) = 0 from by decide]
  exact Int32.shiftLeft_zero
theorem sh0r (x : Int32) : x >>> ((0 : Int32) &&& 31) = x := by
  rw [show ((0 : Int32) &&& 31) = 0 from by decide]
  exact Int32.shiftRight_zero
theorem ni_ng {n : Nat} (h : n < 2147483648) : (!(decide (Int32.ofNat n < 0))) = true := by
  rw [decide_eq_false (Int32.not_lt.mpr (ni_lo h))]
  rfl
theorem ni_sl {m c : Nat} (hm : m < 5000) (hc : c < 5000) : (Int32.ofNat m - Int32.ofNat c ≤ 0) ↔ m ≤ c := by
  have hm' := ni_t (n := m) (by omega)
  have hc' := ni_t (n := c) (by omega)
  rw [Int32.le_iff_toInt_le, i32_sub (by rw [hm', hc']; omega) (by rw [hm', hc']; omega), hm', hc']
  show (m : Int) - c ≤ 0 ↔ m ≤ c
  omega
theorem ble1 {a b : Nat} (h : a ≤ b) : Nat.ble a b = true := Nat.ble_eq.mpr h
section SBS
variable {i w h cap : Nat} {lk : Nat → Nat → Nat → Bool} {d e : Nat → Nat → Nat → Int32} {t : Nat → Nat} {q : Nat → Nat → Nat → Nat} {L : List Int32}
theorem sb_230 {a b c : Nat} (h0 : 0 < a) (ha : a < 5000) (hb : b < 5000) (hc : c < 5000) : EV (230, 0, [ev_I (Int32.ofNat a), ev_I (Int32.ofNat b), ev_I (Int32.ofNat c)], [], 0, 0) (384, lk, d, w, t, e, q) = some (.inl (some (ev_I (Int32.ofNat (if b < c then a + c else a + b)))), (384, lk, d, w, t, e, q)) := by
  have k : Int32.ofNat a + (if Int32.ofNat b < Int32.ofNat c then Int32.ofNat c else Int32.ofNat b) = Int32.ofNat (if b < c then a + c else a + b) := by
    by_cases x : b < c
    · rw [if_pos ((ni_lt (by omega) (by omega)).mpr x), if_pos x, ni_a]
    · rw [if_neg (fun y => x ((ni_lt (by omega) (by omega)).mp y)), if_neg x, ni_a]
  have kb : (if b < c then a + c else a + b) < 10000 ∧ 0 < (if b < c then a + c else a + b) := by
    by_cases x : b < c
    · rw [if_pos x]; omega
    · rw [if_neg x]; omega
  refine EV_bk (k := 400) ?_
  rw [bk_230_0, k, if_pos (show (0 : Int32) < Int32.ofNat _ from (ni_lt (a := 0) (by omega) (by omega)).mpr kb.2), if_pos (show Int32.ofNat _ ≤ (2147483639 : Int32) from (ni_le (b := 2147483639) (by omega) (by omega)).mpr (by omega))]
theorem sb_229 {m : Nat} (hs : SB i w e q h cap L) (hc : 0 < cap) (h1 : cap < m) (hm : m ≤ 600) : ∃ c', m ≤ c' ∧ c' ≤ 1300 ∧ EV (229, 0, [ev_R 213 i, ev_I (Int32.ofNat m)], [], 0, 0) (384, lk, d, w, t, e, q) = some (.inl (some (ev_I (Int32.ofNat c'))), (384, lk, d, w, t, e, q)) := by
  obtain ⟨s1, s2, s3, s4, s5, s6, s7, s8, s9⟩ := hs
  refine ⟨if m - cap < cap + 2 then cap + (cap + 2) else cap + (m - cap), by split <;> omega, by split <;> omega, EV_bk (k := 400) ?_⟩
  rw [bk_229_0, s1, ev_lq_s, s6, s4, sh0l, sh0l, ni_sb (by omega), show Int32.ofNat cap + (2 : Int32) = Int32.ofNat (cap + 2) from ni_a cap 2, sb_230 hc (by omega) (by omega) (by omega), bi_ok, if_neg ?_]
  · show some (Sum.inl (some (ev_I (_ >>> ((e 213 i 1) &&& 31)))), _) = _
    rw [s4, sh0r]
  · have : (if m - cap < cap + 2 then cap + (cap + 2) else cap + (m - cap)) < 5000 := by split <;> omega
    intro x
    have := (ni_eq (b := 2147483647) (by omega) (by omega)).mp x
    omega
theorem sb_231 {m : Nat} (h2 : h < w) (s6 : e 199 h 0 = Int32.ofNat cap) (h1 : cap < m) (hm : m ≤ 1300) : EV (231, 0, [ev_R 214 h, ev_I (Int32.ofNat m)], [], 0, 0) (384, lk, d, w, t, e, q) = some (.inl (some (ev_R 214 w)), (384, lk, d, w + 1, ev_n1 t w 214, ev_w3 (ev_u3 (ev_w3 e 214 w (fun _ => 0)) 199 w 0 (Int32.ofNat m)) 214 w (va_cpy ((ev_w3 e 214 w (fun _ => 0)) 214 h) ((ev_w3 e 214 w (fun _ => 0)) 214 w) 0 0 cap), ev_z3 q 214 w)) := by
  have x1 : (ev_u3 e 199 w 0 (Int32.ofNat m)) 199 h 0 = Int32.ofNat cap := by rw [u3_ne (by omega), s6]
  have x2 : (ev_u3 e 199 w 0 (Int32.ofNat m)) 199 w 0 = Int32.ofNat m := by rw [u3_eq ⟨rfl, rfl, rfl⟩]
  have x3 : ¬ Int32.ofNat m < Int32.ofNat cap := fun y => by
    have := (ni_lt (by omega) (by omega)).mp y
    omega
  have x4 : ¬ Int32.ofNat m = Int32.ofNat cap := fun y => by
    have := (ni_eq (by omega) (by omega)).mp y
    omega
  refine EV_bk (k := 400) ?_
  rw [bk_231_0, s6, if_neg x4]
  simp only [x1, x2, if_neg x3, ni_ng (show m < 2147483648 by omega), ni_ng (show cap < 2147483648 by omega), ni_c (show m < 2147483648 by omega), ni_c (show cap < 2147483648 by omega), Nat.zero_add, ble1 (show m ≤ 10000 by omega), ble1 (show m ≤ 2000 by omega), ble1 (show cap ≤ cap from Nat.le_refl _), ble1 (show cap ≤ m by omega), Bool.and_true, Bool.true_and, cond_true]
  rfl
/-- there is room for m bytes -/
theorem sb_room {m : Nat} (hs : SB i w e q h cap L) (hc : 0 < cap) (hm : m ≤ 600) : ∃ w' t' e' q' h' c', EV (228, 0, [ev_R 213 i, ev_I (Int32.ofNat m)], [], 0, 0) (384, lk, d, w, t, e, q) = some (.inl none, (384, lk, d, w', t', e', q')) ∧ BF i w e q w' e' q' ∧ SB i w' e' q' h' c' L ∧ m ≤ c' ∧ 0 < c' := by
  by_cases c : m ≤ cap
  · refine ⟨w, t, e, q, h, cap, EV_bk (k := 400) ?_, BF.rf, hs, c, hc⟩
    obtain ⟨s1, s2, s3, s4, s5, s6, s7, s8, s9⟩ := hs
    rw [bk_228_0, s1, ev_lq_s, s6, s4, sh0r, if_pos ((ni_sl (by omega) (by omega)).mpr c)]
  · obtain ⟨c', b1, b2, e229⟩ := sb_229 (lk := lk) (d := d) (t := t) hs hc (by omega) hm
    obtain ⟨s1, s2, s3, s4, s5, s6, s7, s8, s9⟩ := hs
    have e231 := sb_231 (lk := lk) (d := d) (t := t) (q := q) (m := c') s2 s6 (by omega) b2
    refine ⟨w + 1, ev_n1 t w 214, ev_w3 (ev_u3 (ev_w3 e 214 w (fun _ => 0)) 199 w 0 (Int32.ofNat c')) 214 w (va_cpy ((ev_w3 e 214 w (fun _ => 0)) 214 h) ((ev_w3 e 214 w (fun _ => 0)) 214 w) 0 0 cap), ev_n3 (ev_z3 q 214 w) 213 i 0 (w + 1), w, c', EV_bk (k := 400) ?_, ⟨by omega, ?_, ?_⟩, ⟨?_, by omega, by omega, ?_, ?_, ?_, by omega, b2, ?_⟩, b1, by omega⟩
    rotate_left
    · intro r x p hx hr hn
      rw [w3_ne (by omega), u3_ne (by omega), w3_ne (by omega)]
    · intro r x p hx hn
      rw [n3_ne (by omega), z3_ne (by omega)]
    · rw [n3_eq ⟨rfl, rfl, rfl⟩]
    · rw [w3_ne (by omega), u3_ne (by omega), w3_ne (by omega), s4]
    · rw [w3_ne (by omega), u3_ne (by omega), w3_ne (by omega), s5]
    · rw [w3_ne (by omega), u3_eq ⟨rfl, rfl, rfl⟩]
    · intro k hk
      rw [w3_eq ⟨rfl, rfl⟩]
      unfold va_cpy
      rw [if_pos (by omega), Nat.sub_zero, Nat.zero_add, w3_ne (by omega), s9 k hk]
    · rw [bk_228_0, s1, ev_lq_s, ev_lq_s, s6, s4, sh0r, if_neg (fun x => c ((ni_sl (by omega) (by omega)).mp x)), e229, bi_ok]
      simp only [s4, sh0l]
      rw [e231, br_ok]
      rfl
end SBS
