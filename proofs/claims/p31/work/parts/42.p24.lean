/-! THE LAW'S METHODS, 24: the text is fed to the program and to the reference -/
/-- the bytes that are fed: the text, then blanks -/
def bN (L : List Int32) (k : Nat) : Nat := if k < L.length then (L.getD k 0).toNatClampNeg else 32
theorem bN_lt {L : List Int32} (h7 : ∀ x ∈ L, as7 x) (k : Nat) : bN L k < 128 := by
  unfold bN
  by_cases c : k < L.length
  · rw [if_pos c]
    exact (as7_get h7 c).2
  · rw [if_neg c]
    decide
theorem SX_r {w w' s : Nat} {e e' : Nat → Nat → Nat → Int32} {q q' : Nat → Nat → Nat → Nat} {L : List Int32} (h : SX w e q s L) (hw : w ≤ w') (hf : ∀ r x p, x < w → r ≠ 210 → e' r x p = e r x p) (hq : ∀ x p, x < w → q' 215 x p = q 215 x p) : SX w' e' q' s L := by
  obtain ⟨h, s1, s2, s3, s4, s5, s6⟩ := h
  exact ⟨h, by rw [hq _ _ s3, s1], by omega, by omega, by rw [hf _ _ _ s3 (by decide), s4], by rw [hf _ _ _ s2 (by decide), s5], fun k hk => by rw [hf _ _ _ s2 (by decide), s6 k hk]⟩
section FDS
variable {s : Nat} {lk : Nat → Nat → Nat → Bool} {d : Nat → Nat → Nat → Int32} {L : List Int32} {P : ev_O × ev_M → Prop}
theorem fd_div : ∀ k, k < 20 → Int32.ofNat k / (4 : Int32) = Int32.ofNat (k / 4) := by decide +kernel
/-- five words of the text from A on -/
theorem fd_in {w A c0 s0 i4 : Nat} {t : Nat → Nat} {q : Nat → Nat → Nat → Nat} {y2 : Int32} (hc : c0 ≤ 31) (h0 : s0 ≤ 155) (hA : A ≤ 700) (hL : L.length ≤ 600) (h7 : ∀ x ∈ L, as7 x) :
    ∀ m k (e : Nat → Nat → Nat → Int32), k + m = 20 → SX w e q s L → (∀ j, j < 5 → e 210 i4 j = Int32.ofNat (ac (bN L) (A + 4 * j) (min 4 (k - 4 * j)))) →
    (∀ e', (∀ r x p, ¬ (r = 210 ∧ x = i4) → e' r x p = e r x p) → (∀ j, j < 5 → e' 210 i4 j = Int32.ofNat (ac (bN L) (A + 4 * j) 4)) → ER (275, 75, [ev_R 27 0, ev_R 215 s, ev_I y2, ev_I (Int32.ofNat A), ev_R 210 i4, ev_I (Int32.ofNat 20)], [], c0, s0) (384, lk, d, w, t, e', q) P) →
    ER (275, 20, [ev_R 27 0, ev_R 215 s, ev_I y2, ev_I (Int32.ofNat A), ev_R 210 i4, ev_I (Int32.ofNat k)], [], c0, s0) (384, lk, d, w, t, e, q) P
  | 0, k, e, hk, hs, he, kk => by
    have : k = 20 := by omega
    subst this
    refine ER_bk ?_
    rw [bk_275_20, if_neg (by decide)]
    exact kk e (fun _ _ _ _ => rfl) (fun j hj => by rw [he j hj, show min 4 (20 - 4 * j) = 4 by omega])
  | m + 1, k, e, hk, hs, he, kk => by
    have d4 : k / 4 < 5 := by omega
    have hb := bN_lt h7 (A + k)
    have val : (e 210 i4 (k / 4) <<< ((8 : Int32) &&& 31)) ||| Int32.ofNat (bN L (A + k)) = Int32.ofNat (ac (bN L) (A + 4 * (k / 4)) (k % 4 + 1)) := by
      rw [he _ d4, show min 4 (k - 4 * (k / 4)) = k % 4 by omega, ac_in (ac_lt (bN_lt h7) (k % 4) (by omega)) (by omega)]
      show _ = Int32.ofNat (256 * ac (bN L) (A + 4 * (k / 4)) (k % 4) + bN L (A + 4 * (k / 4) + k % 4))
      rw [show A + 4 * (k / 4) + k % 4 = A + k by omega]
    have step : ER (275, 20, [ev_R 27 0, ev_R 215 s, ev_I y2, ev_I (Int32.ofNat A), ev_R 210 i4, ev_I (Int32.ofNat (k + 1))], [], c0, s0) (384, lk, d, w, t, ev_u3 e 210 i4 (k / 4) ((e 210 i4 (k / 4) <<< ((8 : Int32) &&& 31)) ||| Int32.ofNat (bN L (A + k))), q) P := by
      rw [val]
      refine fd_in hc h0 hA hL h7 m (k + 1) _ (by omega) (SX_r hs (Nat.le_refl _) (fun r x p _ hr => u3_ne (by omega)) (fun _ _ _ => rfl)) (fun j hj => ?_) (fun e' f1 f2 => kk e' (fun r x p hn => by rw [f1 r x p hn, u3_ne (by omega)]) f2)
      by_cases c : j = k / 4
      · subst c
        rw [u3_eq ⟨rfl, rfl, rfl⟩, show min 4 (k + 1 - 4 * (k / 4)) = k % 4 + 1 by omega]
      · rw [u3_ne (by omega), he j hj, show min 4 (k + 1 - 4 * j) = min 4 (k - 4 * j) by omega]
    refine ER_bk ?_
    rw [bk_275_20, if_pos (show Int32.ofNat k < (20 : Int32) from (ni_lt (b := 20) (by omega) (by omega)).mpr (by omega)), fd_div k (by omega)]
    simp only [Nat.add_zero, ni_in d4 (show 5 < 2147483648 by omega), ble2 hc h0, cond_true]
    rw [sx_len hs, bi_ok]
    simp only [ni_a]
    by_cases c : A + k < L.length
    · rw [if_pos ((ni_lt (by omega) (by omega)).mpr c), sx_at hs c hL (as7_get h7 c), bi_ok]
      simp only [ni_c (show k / 4 < 2147483648 by omega), ni_1]
      have eb : L.getD (A + k) 0 = Int32.ofNat (bN L (A + k)) := by
        unfold bN
        rw [if_pos c]
        exact (as7_get h7 c).1
      rw [eb]
      exact step
    · rw [if_neg (fun z => c ((ni_lt (by omega) (by omega)).mp z))]
      simp only [ni_c (show k / 4 < 2147483648 by omega), ni_1]
      have eb : (32 : Int32) = Int32.ofNat (bN L (A + k)) := by
        unfold bN
        rw [if_neg c]
        rfl
      rw [eb]
      exact step
/-- all of the text from 20 m on -/
theorem fd_loop (hl : LK lk) (hL : L.length ≤ 560) (h7 : ∀ x ∈ L, as7 x) :
    ∀ f m w t (d e : Nat → Nat → Nat → Int32) (q : Nat → Nat → Nat → Nat), L.length ≤ 20 * m + 20 * f → 20 * m ≤ L.length + 19 → SX w e q s L → GI d → d 44 0 4 = Int32.ofNat (20 * m) → (∀ k, k < 20 * m → d 47 0 k = Int32.ofNat (bN L k)) →
    (∀ d' w' t' e' q' m', w ≤ w' → (∀ r x p, x < w → e' r x p = e r x p) → (∀ r x p, x < w → q' r x p = q r x p) → GI d' → d' 44 0 4 = Int32.ofNat (20 * m') → L.length ≤ 20 * m' → 20 * m' ≤ 600 → (∀ k, k < 20 * m' → d' 47 0 k = Int32.ofNat (bN L k)) → d' 104 = d 104 → P (.inl (some (ev_I 1)), (384, lk, d', w', t', e', q'))) →
    ER (275, 4, [ev_R 27 0, ev_R 215 s, ev_I (Int32.ofNat (20 * m)), ev_I (Int32.ofNat (20 * m))], [], m, 5 * m) (384, lk, d, w, t, e, q) P
  | f, m, w, t, d, e, q, hf, hm, hs, hG, h4, h47, kk => by
    refine ER_bk ?_
    rw [bk_275_4]
    simp only [Nat.add_zero, ble2 (show m ≤ 31 by omega) (show 5 * m ≤ 155 by omega), cond_true]
    rw [sx_len hs, bi_ok]
    by_cases c : 20 * m < L.length
    · match f, hf with
      | 0, hf => omega
      | f + 1, hf =>
        rw [if_pos ((ni_lt (by omega) (by omega)).mpr c)]
        simp only [show (384 : Nat).beq 384 = true from rfl, ble2 (show m + 1 ≤ 31 by omega) (show 5 * m + 5 ≤ 155 by omega), Bool.and_true, Bool.true_and, cond_true]
        have hs1 : SX (w + 1) (ev_w3 e 210 w (fun _ => 0)) (ev_z3 q 210 w) s L := SX_r hs (by omega) (fun r x p hx hr => w3_ne (by omega)) (fun x p hx => z3_ne (by omega))
        refine fd_in (w := w + 1) (A := 20 * m) (i4 := w) (by omega) (by omega) (by omega) (by omega) h7 20 0 _ rfl hs1 (fun j hj => ?_) (fun e2 f1 f2 => ?_)
        · rw [w3_eq ⟨rfl, rfl⟩, show min 4 (0 - 4 * j) = 0 by omega]
          rfl
        · have g : ∀ x, Int32.ofNat (ac (bN L) (20 * m + 4 * x) 4) = Int32.ofNat (ac (bN L) (20 * m + 4 * x) 4) := fun _ => rfl
          obtain ⟨d1, d2, cr, gi, ⟨-, s104⟩, l4, l47, ea, eb⟩ := ol_append hl hG h4 (by omega) (x1 := Int32.ofNat (ac (bN L) (20 * m) 4)) (x2 := Int32.ofNat (ac (bN L) (20 * m + 4) 4)) (x3 := Int32.ofNat (ac (bN L) (20 * m + 8) 4)) (x4 := Int32.ofNat (ac (bN L) (20 * m + 12) 4)) (x5 := Int32.ofNat (ac (bN L) (20 * m + 16) 4)) 384 (w + 1, ev_n1 t w 210, e2, ev_z3 q 210 w) (Nat.le_refl _)
          have v0 : e2 210 w 0 = Int32.ofNat (ac (bN L) (20 * m) 4) := f2 0 (by decide)
          have v1 : e2 210 w 1 = Int32.ofNat (ac (bN L) (20 * m + 4) 4) := f2 1 (by decide)
          have v2 : e2 210 w 2 = Int32.ofNat (ac (bN L) (20 * m + 8) 4) := f2 2 (by decide)
          have v3 : e2 210 w 3 = Int32.ofNat (ac (bN L) (20 * m + 12) 4) := f2 3 (by decide)
          have v4 : e2 210 w 4 = Int32.ofNat (ac (bN L) (20 * m + 16) 4) := f2 4 (by decide)
          have hs2 : SX (w + 1) e2 (ev_z3 q 210 w) s L := SX_r hs1 (Nat.le_refl _) (fun r x p hx hr => f1 r x p (by omega)) (fun _ _ _ => rfl)
          have n20 : Int32.ofNat (20 * m) + (20 : Int32) = Int32.ofNat (20 * (m + 1)) := by
            rw [show 20 * (m + 1) = 20 * m + 20 by omega]
            exact ni_a (20 * m) 20
          refine ER_bk ?_
          rw [bk_275_75]
          simp only [Nat.add_zero, ble2 (show m + 1 ≤ 31 by omega) (show 5 * m + 5 ≤ 155 by omega), cond_true]
          rw [v0, v1, v2, v3, v4, ea, bi_ok, eb, gh_CR cr, if_pos (by rw [n20, show 20 * (m + 1) = 20 * m + 20 by omega])]
          refine ER_bk ?_
          rw [bk_275_108]
          simp only [Nat.add_zero, n20]
          rw [show 5 * m + 5 = 5 * (m + 1) by omega]
          refine fd_loop hl hL h7 f (m + 1) (w + 1) (ev_n1 t w 210) d2 e2 (ev_z3 q 210 w) (by omega) (by omega) hs2 gi (by rw [l4, show 20 * (m + 1) = 20 * m + 20 by omega]) (fun k hk => ?_) (fun d' w' t' e' q' m' a1 a2 a3 a4 a5 a6 a7 a8 a9 => kk d' w' t' e' q' m' (by omega) (fun r x p hx => ?_) (fun r x p hx => ?_) a4 a5 a6 a7 a8 (a9.trans s104))
          · rw [l47, ac_wr5 (bN_lt h7)]
            by_cases ck : 20 * m ≤ k ∧ k < 20 * m + 20
            · rw [if_pos ck, show 20 * m + (k - 20 * m) = k by omega]
            · rw [if_neg ck, h47 k (by omega)]
          · rw [a2 r x p (by omega), f1 r x p (by omega), w3_ne (by omega)]
          · rw [a3 r x p (by omega), z3_ne (by omega)]
    · rw [if_neg (fun z => c ((ni_lt (by omega) (by omega)).mp z))]
      refine ER_bk ?_
      rw [bk_275_114]
      exact ⟨_, rfl, kk d w t e q m (Nat.le_refl _) (fun _ _ _ _ => rfl) (fun _ _ _ _ => rfl) hG h4 (by omega) (by omega) h47 rfl⟩
/-- feeds -/
theorem fd_feeds (hl : LK lk) (hL : L.length ≤ 560) (h7 : ∀ x ∈ L, as7 x) {w : Nat} {t : Nat → Nat} {e : Nat → Nat → Nat → Int32} {q : Nat → Nat → Nat → Nat} (hs : SX w e q s L) (hG : GI d) (h4 : d 44 0 4 = 0)
    (kk : ∀ d' w' t' e' q' m', w ≤ w' → (∀ r x p, x < w → e' r x p = e r x p) → (∀ r x p, x < w → q' r x p = q r x p) → GI d' → d' 44 0 4 = Int32.ofNat (20 * m') → L.length ≤ 20 * m' → 20 * m' ≤ 600 → (∀ k, k < 20 * m' → d' 47 0 k = Int32.ofNat (bN L k)) → d' 104 = d 104 → P (.inl (some (ev_I 1)), (384, lk, d', w', t', e', q'))) :
    ER (275, 0, [ev_R 27 0, ev_R 215 s], [], 0, 0) (384, lk, d, w, t, e, q) P := by
  refine ER_bk ?_
  rw [bk_275_0]
  exact fd_loop hl hL h7 30 0 w t d e q (by omega) (by omega) hs hG h4 (fun k hk => absurd hk (Nat.not_lt_zero _)) kk
end FDS
