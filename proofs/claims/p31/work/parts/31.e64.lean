/-! THE PROGRAM AGAINST THE REFERENCE, 50: the next token, in the reference -/
theorem by_m {x : Int32} (h : ms_rg x (-128) 127) : ∃ m, m < 256 ∧ x = Int32.ofNat m - 128 := by
  obtain ⟨h1, h2⟩ := h
  refine ⟨(x.toInt + 128).toNat, by omega, ?_⟩
  apply Int32.toInt_inj.mp
  have e : (Int32.ofNat (x.toInt + 128).toNat).toInt = x.toInt + 128 := by
    rw [ni_t (by omega)]
    omega
  have e2 : (128 : Int32).toInt = 128 := by decide
  rw [i32_sub (by omega) (by omega), e, e2]
  omega
theorem by_all : ∀ m, m < 256 → ((((Int32.ofNat m - 128) &&& 255 = 32 ∨ (Int32.ofNat m - 128) &&& 255 = 10) ↔ tk_c (Int32.ofNat m - 128) = 5) ∧ ((97 ≤ (Int32.ofNat m - 128) &&& 255 ∧ (Int32.ofNat m - 128) &&& 255 ≤ 122) ↔ tk_c (Int32.ofNat m - 128) = 1) ∧
    ((48 ≤ (Int32.ofNat m - 128) &&& 255 ∧ (Int32.ofNat m - 128) &&& 255 ≤ 57) ↔ tk_c (Int32.ofNat m - 128) = 2) ∧ ((Int32.ofNat m - 128) &&& 255 = 59 ↔ tk_c (Int32.ofNat m - 128) = 3) ∧ ¬ (Int32.ofNat m - 128) &&& 255 = -1 ∧ (tk_c (Int32.ofNat m - 128) = 2 → (Int32.ofNat m - 128) &&& 255 = Int32.ofNat m - 128)) := by
  unfold tk_c
  decide +kernel
theorem by_c {x : Int32} (h : ms_rg x (-128) 127) : (((x &&& 255) = 32 ∨ (x &&& 255) = 10) ↔ tk_c x = 5) ∧ ((97 ≤ (x &&& 255) ∧ (x &&& 255) ≤ 122) ↔ tk_c x = 1) ∧ ((48 ≤ (x &&& 255) ∧ (x &&& 255) ≤ 57) ↔ tk_c x = 2) ∧ ((x &&& 255) = 59 ↔ tk_c x = 3) ∧ ¬ (x &&& 255) = -1 ∧ (tk_c x = 2 → (x &&& 255) = x) := by
  obtain ⟨m, hm, e⟩ := by_m h
  rw [e]
  exact by_all m hm
/-- the text of the reference: its first bytes -/
def TB (d : Nat → Nat → Nat → Int32) (b : Nat → Int32) (len : Nat) : Prop := len ≤ 600 ∧ d 44 0 5 = Int32.ofNat len ∧ ∀ x, x < len → d 47 0 x = b x ∧ ms_rg (b x) (-128) 127
theorem TB_PF {d d' : Nat → Nat → Nat → Int32} {b : Nat → Int32} {len : Nat} (h : TB d b len) (hf : PF 44 6 9 d d') : TB d' b len := by
  obtain ⟨h1, h2, h3⟩ := h
  exact ⟨h1, by rw [hf.2 5 (by decide), h2], fun x hx => by rw [hf.1 47 (by decide)]; exact h3 x hx⟩
section EC39
variable {n : Nat} {lk : Nat → Nat → Nat → Bool} {d : Nat → Nat → Nat → Int32} {o : ev_W}
theorem em_byte (hl : LK lk) {b : Nat → Int32} {len k : Nat} (h : TB d b len) (hk : k < len) : EV (136, 0, [ev_R 44 0, ev_I (Int32.ofNat k)], [], 0, 0) (n, lk, d, o) = some (.inl (some (ev_I (b k &&& 255))), (n, lk, d, o)) := by
  obtain ⟨h1, h2, h3⟩ := h
  refine EV_bk (k := 400) ?_
  rw [bk_136_0, h2, if_pos ((ni_lt (by omega) (by omega)).mpr hk), hl 44 0 3 rfl (by decide) (by decide), cond_true]
  simp only [ni_in (n := k) (N := 600) (by omega) (by omega), ni_c (n := k) (by omega), cond_true, (h3 k hk).1]
theorem em_byteEnd {b : Nat → Int32} {len k : Nat} (h : TB d b len) (hk : ¬ k < len) (h6 : k ≤ 600) : EV (136, 0, [ev_R 44 0, ev_I (Int32.ofNat k)], [], 0, 0) (n, lk, d, o) = some (.inl (some (ev_I (-1))), (n, lk, d, o)) := by
  obtain ⟨h1, h2, h3⟩ := h
  refine EV_bk (k := 400) ?_
  rw [bk_136_0, h2, if_neg (fun v => hk ((ni_lt (by omega) (by omega)).mp v))]
theorem em_letters (hl : LK lk) {b : Nat → Int32} {len s : Nat} {y : Int32} : ∀ j k, k + j = len → s ≤ k → ∀ d : Nat → Nat → Nat → Int32, TB d b len → d 44 0 6 = Int32.ofNat s → d 44 0 7 = Int32.ofNat k →
    ∃ d', EV (137, 85, [ev_R 44 0, ev_I y], [], 0, 0) (n, lk, d, o) = some (.inl none, (n, lk, d', o)) ∧ PF 44 6 9 d d' ∧ d' 44 0 8 = tk_l 1 (tk_g (tk_q 1) b len k - s) ∧ d' 44 0 6 = Int32.ofNat s ∧ d' 44 0 7 = Int32.ofNat (tk_g (tk_q 1) b len k) := by
  have fin : ∀ k, s ≤ k → k ≤ 600 → ∀ d : Nat → Nat → Nat → Int32, d 44 0 6 = Int32.ofNat s → d 44 0 7 = Int32.ofNat k → ∃ d', (if (d 44 0 7 - d 44 0 6) ≤ (8 : Int32) then some (.inl none, (n, lk, ev_u3 d 44 0 8 (1 : Int32), o)) else some (.inl none, (n, lk, ev_u3 d 44 0 8 (4 : Int32), o)) : ev_T) = some (.inl none, (n, lk, d', o)) ∧ PF 44 6 9 d d' ∧ d' 44 0 8 = tk_l 1 (k - s) ∧ d' 44 0 6 = Int32.ofNat s ∧ d' 44 0 7 = Int32.ofNat k := by
    intro k hs h6 d h6' h7
    rw [h6', h7, ni_sb hs]
    unfold tk_l
    rw [if_pos rfl]
    by_cases z : k - s ≤ 8
    · rw [if_pos (show Int32.ofNat (k - s) ≤ 8 from (ni_le (b := 8) (by omega) (by omega)).mpr z), if_pos z]
      exact ⟨_, rfl, PF_u (by decide) (by decide), u3s, by rw [u3x (by decide), h6'], by rw [u3x (by decide), h7]⟩
    · rw [if_neg (show ¬ Int32.ofNat (k - s) ≤ 8 from fun v => z ((ni_le (b := 8) (by omega) (by omega)).mp v)), if_neg z]
      exact ⟨_, rfl, PF_u (by decide) (by decide), u3s, by rw [u3x (by decide), h6'], by rw [u3x (by decide), h7]⟩
  intro j
  induction j with
  | zero =>
    intro k hk hs d ht h6 h7
    rw [tk_ge (by omega)]
    obtain ⟨d', e, f⟩ := fin k hs (by have := ht.1; omega) d h6 h7
    refine ⟨d', EV_bk (k := 400) ?_, f⟩
    rw [bk_137_85, h7, em_byteEnd ht (by omega) (by have := ht.1; omega)]
    simp only [ev_bi]
    rw [em_129]
    simp only []
    rw [if_neg (show ¬ ((97 : Int32) ≤ -1 ∧ (-1 : Int32) ≤ 122) by decide), if_pos rfl]
    exact e
  | succ j ih =>
    intro k hk hs d ht h6 h7
    have h600 := ht.1
    have hc := (by_c (ht.2.2 k (by omega)).2).2.1
    by_cases z : tk_c (b k) = 1
    · rw [tk_gs (by omega) (show tk_q 1 (b k) = true from decide_eq_true z)]
      have fr : PF 44 6 9 d (ev_u3 d 44 0 7 (Int32.ofNat (k + 1))) := PF_u (by decide) (by decide)
      obtain ⟨d', e, f, g⟩ := ih (k + 1) (by omega) (by omega) (ev_u3 d 44 0 7 (Int32.ofNat (k + 1))) (TB_PF ht fr) (by rw [u3x (by decide), h6]) u3s
      refine ⟨d', EV_bk (k := 400) ?_, PF_t fr f, g⟩
      rw [bk_137_85, h7, em_byte hl ht (by omega)]
      simp only [ev_bi]
      rw [em_129]
      simp only []
      rw [if_pos (hc.mpr z), if_neg (by decide), h7, ni_1]
      exact e
    · rw [tk_gn (by omega) (show ¬ tk_q 1 (b k) = true from fun v => z (of_decide_eq_true v))]
      obtain ⟨d', e, f⟩ := fin k hs (by omega) d h6 h7
      refine ⟨d', EV_bk (k := 400) ?_, f⟩
      rw [bk_137_85, h7, em_byte hl ht (by omega)]
      simp only [ev_bi]
      rw [em_129]
      simp only []
      rw [if_neg (fun v => z (hc.mp v)), if_pos rfl]
      exact e
theorem em_digits (hl : LK lk) {b : Nat → Int32} {len s : Nat} {y : Int32} : ∀ j k, k + j = len → s ≤ k → ∀ d : Nat → Nat → Nat → Int32, TB d b len → d 44 0 6 = Int32.ofNat s → d 44 0 7 = Int32.ofNat k → (k - s ≤ 3 → d 44 0 9 = tk_v b s (k - s)) →
    ∃ d', EV (137, 153, [ev_R 44 0, ev_I y], [], 0, 0) (n, lk, d, o) = some (.inl none, (n, lk, d', o)) ∧ PF 44 6 9 d d' ∧ d' 44 0 8 = tk_l 2 (tk_g (tk_q 2) b len k - s) ∧ d' 44 0 6 = Int32.ofNat s ∧ d' 44 0 7 = Int32.ofNat (tk_g (tk_q 2) b len k) ∧
      (tk_g (tk_q 2) b len k - s ≤ 3 → d' 44 0 9 = tk_v b s (tk_g (tk_q 2) b len k - s)) := by
  have fin : ∀ k, s ≤ k → k ≤ 600 → ∀ d : Nat → Nat → Nat → Int32, d 44 0 6 = Int32.ofNat s → d 44 0 7 = Int32.ofNat k → (k - s ≤ 3 → d 44 0 9 = tk_v b s (k - s)) → ∃ d', (if (d 44 0 7 - d 44 0 6) ≤ (3 : Int32) then some (.inl none, (n, lk, ev_u3 d 44 0 8 (2 : Int32), o)) else some (.inl none, (n, lk, ev_u3 d 44 0 8 (4 : Int32), o)) : ev_T) = some (.inl none, (n, lk, d', o)) ∧ PF 44 6 9 d d' ∧ d' 44 0 8 = tk_l 2 (k - s) ∧ d' 44 0 6 = Int32.ofNat s ∧ d' 44 0 7 = Int32.ofNat k ∧ (k - s ≤ 3 → d' 44 0 9 = tk_v b s (k - s)) := by
    intro k hs h6 d h6' h7 h9
    rw [h6', h7, ni_sb hs]
    unfold tk_l
    rw [if_neg (show ¬ (2 : Int32) = 1 by decide), if_pos rfl]
    by_cases z : k - s ≤ 3
    · rw [if_pos (show Int32.ofNat (k - s) ≤ 3 from (ni_le (b := 3) (by omega) (by omega)).mpr z), if_pos z]
      exact ⟨_, rfl, PF_u (by decide) (by decide), u3s, by rw [u3x (by decide), h6'], by rw [u3x (by decide), h7], fun v => by rw [u3x (by decide), h9 v]⟩
    · rw [if_neg (show ¬ Int32.ofNat (k - s) ≤ 3 from fun v => z ((ni_le (b := 3) (by omega) (by omega)).mp v)), if_neg z]
      exact ⟨_, rfl, PF_u (by decide) (by decide), u3s, by rw [u3x (by decide), h6'], by rw [u3x (by decide), h7], fun v => absurd v z⟩
  intro j
  induction j with
  | zero =>
    intro k hk hs d ht h6 h7 h9
    rw [tk_ge (by omega)]
    obtain ⟨d', e, f⟩ := fin k hs (by have := ht.1; omega) d h6 h7 h9
    refine ⟨d', EV_bk (k := 400) ?_, f⟩
    rw [bk_137_153, h7, em_byteEnd ht (by omega) (by have := ht.1; omega)]
    simp only [ev_bi]
    rw [em_129]
    simp only []
    rw [if_neg (show ¬ ((48 : Int32) ≤ -1 ∧ (-1 : Int32) ≤ 57) by decide), if_pos rfl]
    exact e
  | succ j ih =>
    intro k hk hs d ht h6 h7 h9
    have h600 := ht.1
    obtain ⟨-, -, hc, -, -, hx⟩ := by_c (ht.2.2 k (by omega)).2
    by_cases z : tk_c (b k) = 2
    · rw [tk_gs (by omega) (show tk_q 2 (b k) = true from decide_eq_true z)]
      by_cases y3 : k - s < 3
      · have fr : PF 44 6 9 d (ev_u3 (ev_u3 d 44 0 9 (tk_v b s (k + 1 - s))) 44 0 7 (Int32.ofNat (k + 1))) := PF_t (PF_u (by decide) (by decide)) (PF_u (by decide) (by decide))
        obtain ⟨d', e, f, g⟩ := ih (k + 1) (by omega) (by omega) _ (TB_PF ht fr) (by rw [u3x (by decide), u3x (by decide), h6]) u3s (fun _ => by rw [u3x (by decide), u3s])
        refine ⟨d', EV_bk (k := 400) ?_, PF_t fr f, g⟩
        have hv : (10 : Int32) * d 44 0 9 + b k - 48 = tk_v b s (k + 1 - s) := by
          rw [h9 (by omega), show k + 1 - s = (k - s) + 1 by omega]
          show _ = (10 : Int32) * tk_v b s (k - s) + (b (s + (k - s)) - 48)
          rw [show s + (k - s) = k by omega, Int32.sub_eq_add_neg, Int32.sub_eq_add_neg, Int32.add_assoc]
        rw [bk_137_153, h7, em_byte hl ht (by omega)]
        simp only [ev_bi]
        rw [em_129]
        simp only []
        rw [if_pos (hc.mpr z), if_neg (by decide), if_pos (show d 44 0 7 - d 44 0 6 < 3 by rw [h6, h7, ni_sb hs]; exact (ni_lt (b := 3) (by omega) (by omega)).mpr y3), h7, em_byte hl ht (by omega)]
        simp only []
        rw [hx z, hv, u3x (by decide), h7, ni_1]
        exact e
      · have fr : PF 44 6 9 d (ev_u3 (ev_u3 d 44 0 9 (d 44 0 9)) 44 0 7 (Int32.ofNat (k + 1))) := PF_t (PF_u (by decide) (by decide)) (PF_u (by decide) (by decide))
        obtain ⟨d', e, f, g⟩ := ih (k + 1) (by omega) (by omega) _ (TB_PF ht fr) (by rw [u3x (by decide), u3x (by decide), h6]) u3s (fun v => by omega)
        refine ⟨d', EV_bk (k := 400) ?_, PF_t fr f, g⟩
        rw [bk_137_153, h7, em_byte hl ht (by omega)]
        simp only [ev_bi]
        rw [em_129]
        simp only []
        rw [if_pos (hc.mpr z), if_neg (by decide), if_neg (show ¬ d 44 0 7 - d 44 0 6 < 3 by rw [h6, h7, ni_sb hs]; exact fun v => y3 ((ni_lt (b := 3) (by omega) (by omega)).mp v)), u3x (by decide), h7, ni_1]
        exact e
    · rw [tk_gn (by omega) (show ¬ tk_q 2 (b k) = true from fun v => z (of_decide_eq_true v))]
      obtain ⟨d', e, f⟩ := fin k hs (by omega) d h6 h7 h9
      refine ⟨d', EV_bk (k := 400) ?_, f⟩
      rw [bk_137_153, h7, em_byte hl ht (by omega)]
      simp only [ev_bi]
      rw [em_129]
      simp only []
      rw [if_neg (fun v => z (hc.mp v)), if_pos rfl]
      exact e
end EC39
