/-! THE LAW AND THE PROGRAM, 1: calls that look -/
/-- all but the reference's own is as it was -/
def CR (d d' : Nat → Nat → Nat → Int32) : Prop := ∀ r, r < 44 ∨ 61 < r → d' r = d r
theorem CR_u3 {d : Nat → Nat → Nat → Int32} {k : Nat} {v : Int32} : CR d (ev_u3 d 44 0 k v) := fun r hr => u3n (by omega)
theorem CR_r (d : Nat → Nat → Nat → Int32) : CR d d := fun _ _ => rfl
theorem gh_CR {n : Nat} {lk : Nat → Nat → Nat → Bool} {d1 d2 : Nat → Nat → Nat → Int32} {o : ev_W} {x : ev_O} {K : ev_M → ev_T} (h : CR d1 d2) : ev_gh (some (x, (n, lk, d2, o))) (n, lk, d1, o) K = K (n, lk, d2, o) := by
  show K (ev_mg (n, lk, d1, o) (n, lk, d2, o)) = _
  congr 1
  unfold ev_mg
  simp only
  have e1 : (fun r => bif Nat.blt 43 r && Nat.blt r 62 then lk r else lk r) = lk := by
    funext r
    cases (Nat.blt 43 r && Nat.blt r 62) <;> rfl
  have e2 : (fun r => bif Nat.blt 43 r && Nat.blt r 62 then d2 r else d1 r) = d2 := by
    funext r
    by_cases c : 43 < r ∧ r < 62
    · rw [show (Nat.blt 43 r && Nat.blt r 62) = true by rw [Nat.blt_eq.mpr c.1, Nat.blt_eq.mpr c.2]; rfl, cond_true]
    · rw [show (Nat.blt 43 r && Nat.blt r 62) = false from Bool.eq_false_iff.mpr fun z => c ⟨Nat.blt_eq.mp ((Bool.and_eq_true _ _).mp z).1, Nat.blt_eq.mp ((Bool.and_eq_true _ _).mp z).2⟩, cond_false, h r (by omega)]
  rw [e1, e2]
/-- a call that only looks, its answer in sight -/
def OPL (a b : ev_F) (lk : Nat → Nat → Nat → Bool) (d : Nat → Nat → Nat → Int32) (v : Int32) : Prop := ∀ n o, 384 ≤ n →
  ∃ d1 d2, GF d d2 ∧ CR d1 d2 ∧ EV a (n, lk, d, o) = some (.inl (some (ev_I v)), (n, lk, d1, o)) ∧ EV b (n, lk, d1, o) = some (.inl (some (ev_I v)), (n, lk, d2, o))
theorem OPL_ok {a b : ev_F} {lk : Nat → Nat → Nat → Bool} {d d1 d2 : Nat → Nat → Nat → Int32} {v : Int32} (hf1 : GF d d1) (hf : GF d1 d2) (hc : CR d1 d2)
    (h1 : ∀ n o, 384 ≤ n → EV a (n, lk, d, o) = some (.inl (some (ev_I v)), (n, lk, d1, o))) (h2 : ∀ n o, EV b (n, lk, d1, o) = some (.inl (some (ev_I v)), (n, lk, d2, o))) : OPL a b lk d v :=
  fun n o hn => ⟨d1, d2, GF_t hf1 hf, hc, h1 n o hn, h2 n o⟩
/-- what is told and what is now, with their numbers -/
def GB (d : Nat → Nat → Nat → Int32) (B R C T τ : Nat) : Prop := GI d ∧ TC (d 45 0) B R ∧ CL d 1 (d 45 0) ∧ (d 24 1 4 = Int32.ofNat T ∧ T ≤ 20) ∧ τ ≤ 2000 ∧ GS d 1 (d 46 0) B R C T τ
theorem GI_GB {d : Nat → Nat → Nat → Int32} (h : GI d) : ∃ B R C T τ, GB d B R C T τ := by
  obtain ⟨B, R, T, g1, g2, g3, ⟨C, τ, hτ, hs⟩, g5⟩ := id h
  exact ⟨B, R, C, T, τ, h, g1, g2, g3, hτ, hs⟩
/-- what size, bank, row answer -/
def ol_szv (d : Nat → Nat → Nat → Int32) (C B : Nat) : Nat → Int32
  | 0 => d 24 1 0
  | 1 => d 24 1 1
  | 2 => d 24 1 2
  | 3 => d 24 1 3
  | 4 => d 0 1 0
  | 5 => d 17 1 0
  | 6 => Int32.ofNat (ms_ct (d 46 0) 1 C)
  | 7 => ms_lost (d 46 0) 64
  | 8 => Int32.ofNat (ms_hots (d 46 0) B)
  | _ => d 46 0 7
def ol_bkv (w : Nat → Int32) (C b : Nat) : Nat → Int32
  | 0 => w (19 + 9 * b + 0)
  | 1 => w (19 + 9 * b + 1)
  | 2 => Int32.ofNat (ms_many w b 1 C)
  | 3 => w (19 + 9 * b + 2)
  | 4 => w (19 + 9 * b + 3)
  | 5 => w (19 + 9 * b + 4)
  | 6 => w (19 + 9 * b + 5)
  | 7 => w (19 + 9 * b + 6)
  | _ => w (19 + 9 * b + 7)
def ol_rwv (d : Nat → Nat → Nat → Int32) (b r : Nat) : Nat → Int32
  | 0 => d 46 0 (55 + 5 * (16 * b + r) + 0)
  | 1 => ms_bound (d 45 0) (d 46 0) b r
  | 2 => ms_rem (d 45 0) (d 46 0) b r
  | 3 => d 46 0 (55 + 5 * (16 * b + r) + 1)
  | 4 => d 46 0 (55 + 5 * (16 * b + r) + 2)
  | 5 => d 46 0 (55 + 5 * (16 * b + r) + 3)
  | 6 => d 46 0 (55 + 5 * (16 * b + r) + 4)
  | 7 => d 25 1 (16 * b + r)
  | _ => d 26 1 (16 * b + r)
section OL1
variable {n : Nat} {lk : Nat → Nat → Nat → Bool} {d : Nat → Nat → Nat → Int32} {o : ev_W} {B R C T τ : Nat}
theorem ol_size (hl : LK lk) (hG : GB d B R C T τ) {k : Nat} (hk : k < 10) : OPL (90, 0, [ev_R 27 0, ev_I (Int32.ofNat k)], [], 0, 0) (190, 0, [ev_R 44 0, ev_I (Int32.ofNat k)], [], 0, 0) lk d (ol_szv d C B k) := by
  obtain ⟨h, g1, g2, -, -, ⟨K, hs⟩, hI⟩ := hG
  obtain ⟨⟨t0, t1, b1, b4, r1, r16⟩, -⟩ := id g1
  have hB := g2.1.trans t0
  have hR := g2.2.1.trans t1
  have h40 := cs_C hs
  have hC := (cs_ct hs).trans (cs_w9 hs)
  have hC' : ev_u3 d 44 0 0 0 46 0 9 = Int32.ofNat C := by rw [u3n (by decide), cs_w9 hs]
  obtain ⟨l0, l1, l2, l3, -⟩ := id g2
  have tr : d 0 1 1 = 0 ∨ d 0 1 1 = 1 := by
    rw [cs_tr hs]
    exact hI.2.2.2.1.2.2.2.1
  have z : 0 ≤ Int32.ofNat k ∧ Int32.ofNat k ≤ 10 := ⟨ni_lo (by omega), (ni_le (b := 10) (by omega) (by omega)).mpr (by omega)⟩
  match k, hk, z with
  | 0, _, z =>
    refine OPL_ok (v := d 24 1 0) (GF_r d) (GF_thrown (v := 0)) CR_u3 (fun n o _ => ?_) (fun n o => ?_)
    · refine EV_bk (k := 400) ?_
      rw [bk_90_0]
      simp (decide := true) only [↓reduceIte, hl 27 0 3 rfl (by decide) (by decide), hl 27 0 4 rfl (by decide) (by decide), hl 27 0 6 rfl (by decide) (by decide), show lk 0 1 8 = true from hl 0 1 8 rfl (by decide) (by decide), cond_true]
    · refine EV_bk (k := 400) ?_
      rw [bk_190_0, em_in z]
      simp (decide := true) only [ev_bi, ↓reduceIte]
      rw [em_throws0 u3s]
      simp (decide := true) only [↓reduceIte, hl 44 0 1 rfl (by decide) (by decide), cond_true, ni_in (n := 0) (N := 132) (by omega) (by omega), ni_c (n := 0) (by omega)]
      rw [u3n (by decide), l0]
  | 1, _, z =>
    refine OPL_ok (v := d 24 1 1) (GF_r d) (GF_thrown (v := 0)) CR_u3 (fun n o _ => ?_) (fun n o => ?_)
    · refine EV_bk (k := 400) ?_
      rw [bk_90_0]
      simp (decide := true) only [↓reduceIte, hl 27 0 3 rfl (by decide) (by decide), hl 27 0 4 rfl (by decide) (by decide), hl 27 0 6 rfl (by decide) (by decide), show lk 0 1 8 = true from hl 0 1 8 rfl (by decide) (by decide), cond_true]
    · refine EV_bk (k := 400) ?_
      rw [bk_190_0, em_in z]
      simp (decide := true) only [ev_bi, ↓reduceIte]
      rw [em_throws0 u3s]
      simp (decide := true) only [↓reduceIte, hl 44 0 1 rfl (by decide) (by decide), cond_true, ni_in (n := 1) (N := 132) (by omega) (by omega), ni_c (n := 1) (by omega)]
      rw [u3n (by decide), l1]
  | 2, _, z =>
    refine OPL_ok (v := d 24 1 2) (GF_r d) (GF_thrown (v := 0)) CR_u3 (fun n o _ => ?_) (fun n o => ?_)
    · refine EV_bk (k := 400) ?_
      rw [bk_90_0]
      simp (decide := true) only [↓reduceIte, hl 27 0 3 rfl (by decide) (by decide), hl 27 0 4 rfl (by decide) (by decide), hl 27 0 6 rfl (by decide) (by decide), show lk 0 1 8 = true from hl 0 1 8 rfl (by decide) (by decide), cond_true]
    · refine EV_bk (k := 400) ?_
      rw [bk_190_0, em_in z]
      simp (decide := true) only [ev_bi, ↓reduceIte]
      rw [em_throws0 u3s]
      simp (decide := true) only [↓reduceIte, hl 44 0 1 rfl (by decide) (by decide), cond_true, ni_in (n := 2) (N := 132) (by omega) (by omega), ni_c (n := 2) (by omega)]
      rw [u3n (by decide), l2]
  | 3, _, z =>
    refine OPL_ok (v := d 24 1 3) (GF_r d) (GF_thrown (v := 0)) CR_u3 (fun n o _ => ?_) (fun n o => ?_)
    · refine EV_bk (k := 400) ?_
      rw [bk_90_0]
      simp (decide := true) only [↓reduceIte, hl 27 0 3 rfl (by decide) (by decide), hl 27 0 4 rfl (by decide) (by decide), hl 27 0 6 rfl (by decide) (by decide), show lk 0 1 8 = true from hl 0 1 8 rfl (by decide) (by decide), cond_true]
    · refine EV_bk (k := 400) ?_
      rw [bk_190_0, em_in z]
      simp (decide := true) only [ev_bi, ↓reduceIte]
      rw [em_throws0 u3s]
      simp (decide := true) only [↓reduceIte, hl 44 0 1 rfl (by decide) (by decide), cond_true, ni_in (n := 3) (N := 132) (by omega) (by omega), ni_c (n := 3) (by omega)]
      rw [u3n (by decide), l3]
  | 4, _, z =>
    refine OPL_ok (v := d 0 1 0) (GF_r d) (GF_thrown (v := 0)) CR_u3 (fun n o _ => ?_) (fun n o => ?_)
    · refine EV_bk (k := 400) ?_
      rw [bk_90_0]
      simp (decide := true) only [↓reduceIte, hl 27 0 3 rfl (by decide) (by decide), hl 27 0 4 rfl (by decide) (by decide), hl 27 0 6 rfl (by decide) (by decide), show lk 0 1 8 = true from hl 0 1 8 rfl (by decide) (by decide), cond_true]
    · refine EV_bk (k := 400) ?_
      rw [bk_190_0, em_in z]
      simp (decide := true) only [ev_bi, ↓reduceIte]
      rw [em_throws0 u3s]
      simp (decide := true) only [↓reduceIte, hl 44 0 2 rfl (by decide) (by decide), cond_true]
      rw [u3n (by decide), cs_tm hs]
  | 5, _, z =>
    refine OPL_ok (v := d 17 1 0) (GF_r d) (GF_thrown (v := 0)) CR_u3 (fun n o _ => ?_) (fun n o => ?_)
    · refine EV_bk (k := 400) ?_
      rw [bk_90_0]
      simp (decide := true) only [↓reduceIte, hl 27 0 3 rfl (by decide) (by decide), hl 27 0 4 rfl (by decide) (by decide), hl 27 0 6 rfl (by decide) (by decide), show lk 0 1 8 = true from hl 0 1 8 rfl (by decide) (by decide), cond_true]
    · refine EV_bk (k := 400) ?_
      rw [bk_190_0, em_in z]
      simp (decide := true) only [ev_bi, ↓reduceIte]
      rw [em_throws0 u3s]
      simp (decide := true) only [↓reduceIte, hl 44 0 2 rfl (by decide) (by decide), cond_true]
      rw [u3n (by decide), cs_ct hs]
  | 6, _, z =>
    refine OPL_ok (v := Int32.ofNat (ms_ct (d 46 0) 1 C)) (GF_r d) (GF_thrown (v := 0)) CR_u3 (fun n o _ => ?_) (fun n o => ?_)
    · refine EV_bk (k := 400) ?_
      rw [bk_90_0]
      simp (decide := true) only [↓reduceIte, hl 27 0 4 rfl (by decide) (by decide), show lk 0 1 8 = true from hl 0 1 8 rfl (by decide) (by decide), cond_true, ec_countIn hl (i := 1) (by decide) hs, ev_bi]
    · refine EV_bk (k := 400) ?_
      rw [bk_190_0, em_in z]
      simp (decide := true) only [ev_bi, ↓reduceIte]
      rw [em_throws0 u3s]
      simp (decide := true) only [↓reduceIte]
      rw [em_waitingMany hl hC' (cs_C hs), u3n (by decide)]
  | 7, _, z =>
    refine OPL_ok (v := ms_lost (d 46 0) 64) (GF_r d) (GF_thrown (v := 0)) CR_u3 (fun n o _ => ?_) (fun n o => ?_)
    · refine EV_bk (k := 400) ?_
      rw [bk_90_0]
      simp (decide := true) only [↓reduceIte, ec_lostMany hl hs, ev_bi]
    · refine EV_bk (k := 400) ?_
      rw [bk_190_0, em_in z]
      simp (decide := true) only [ev_bi, ↓reduceIte]
      rw [em_throws0 u3s]
      simp (decide := true) only [↓reduceIte]
      rw [em_lostMany hl, u3n (by decide)]
  | 8, _, z =>
    refine OPL_ok (v := Int32.ofNat (ms_hots (d 46 0) B)) (GF_r d) (GF_thrown (v := 0)) CR_u3 (fun n o _ => ?_) (fun n o => ?_)
    · refine EV_bk (k := 400) ?_
      rw [bk_90_0]
      simp (decide := true) only [↓reduceIte, ec_hotMany hl hs (g2.1.trans t0) b4, ev_bi]
    · refine EV_bk (k := 400) ?_
      rw [bk_190_0, em_in z]
      simp (decide := true) only [ev_bi, ↓reduceIte]
      rw [em_throws0 u3s]
      simp (decide := true) only [↓reduceIte]
      rw [em_hotMany hl (B := B) (by rw [u3n (by decide), t0]) b4, u3n (by decide)]
  | 9, _, z =>
    refine OPL_ok (v := d 46 0 7) (GF_r d) (GF_thrown (v := 0)) CR_u3 (fun n o _ => ?_) (fun n o => ?_)
    · refine EV_bk (k := 400) ?_
      rw [bk_90_0]
      rw [← cs_tr hs]
      rcases tr with y | y <;> simp (decide := true) only [↓reduceIte, hl 27 0 4 rfl (by decide) (by decide), cond_true, y]
    · refine EV_bk (k := 400) ?_
      rw [bk_190_0, em_in z]
      simp (decide := true) only [ev_bi, ↓reduceIte]
      rw [em_throws0 u3s]
      simp (decide := true) only [↓reduceIte, hl 44 0 2 rfl (by decide) (by decide), cond_true]
      rw [u3n (by decide)]
theorem ol_setting (hl : LK lk) (hG : GB d B R C T τ) {k : Nat} (hk : k < 7) : OPL (91, 0, [ev_R 27 0, ev_I (Int32.ofNat k)], [], 0, 0) (192, 0, [ev_R 44 0, ev_I (Int32.ofNat k)], [], 0, 0) lk d (d 46 0 k) := by
  obtain ⟨h, g1, g2, -, -, ⟨K, hs⟩, hI⟩ := hG
  obtain ⟨⟨t0, t1, b1, b4, r1, r16⟩, -⟩ := id g1
  have hB := g2.1.trans t0
  have hR := g2.2.1.trans t1
  have h40 := cs_C hs
  have hC := (cs_ct hs).trans (cs_w9 hs)
  have hC' : ev_u3 d 44 0 0 0 46 0 9 = Int32.ofNat C := by rw [u3n (by decide), cs_w9 hs]
  have z : 0 ≤ Int32.ofNat k ∧ Int32.ofNat k ≤ 6 := ⟨ni_lo (by omega), (ni_le (b := 6) (by omega) (by omega)).mpr (by omega)⟩
  refine OPL_ok (v := d 46 0 k) (GF_r d) (GF_thrown (v := 0)) CR_u3 (fun n o _ => ?_) (fun n o => ?_)
  · refine EV_bk (k := 400) ?_
    rw [bk_91_0, if_neg (Int32.not_lt.mpr z.1), if_pos (show Int32.ofNat k < 7 from (ni_lt (b := 7) (by omega) (by omega)).mpr (by omega))]
    simp only [hl 27 0 4 rfl (by decide) (by decide), show lk 0 1 4 = true from hl 0 1 4 rfl (by decide) (by decide), cond_true, ni_in (n := k) (N := 7) (by omega) (by omega), ni_c (n := k) (by omega), cs_1 hs (k := k) (by omega)]
  · refine EV_bk (k := 400) ?_
    rw [bk_192_0, em_noSetting, if_pos z]
    simp only [ev_bi, ↓reduceIte, hl 44 0 2 rfl (by decide) (by decide), cond_true, Int32.zero_add, ni_in (n := k) (N := 615) (by omega) (by omega), ni_c (n := k) (by omega)]
    rw [u3n (by decide)]
theorem ol_account (hl : LK lk) (hG : GB d B R C T τ) {k : Nat} (hk : k < 6) : OPL (106, 0, [ev_R 27 0, ev_I (Int32.ofNat k)], [], 0, 0) (212, 0, [ev_R 44 0, ev_I (Int32.ofNat k)], [], 0, 0) lk d (d 46 0 (11 + k)) := by
  obtain ⟨h, g1, g2, -, -, ⟨K, hs⟩, hI⟩ := hG
  obtain ⟨⟨t0, t1, b1, b4, r1, r16⟩, -⟩ := id g1
  have hB := g2.1.trans t0
  have hR := g2.2.1.trans t1
  have h40 := cs_C hs
  have hC := (cs_ct hs).trans (cs_w9 hs)
  have hC' : ev_u3 d 44 0 0 0 46 0 9 = Int32.ofNat C := by rw [u3n (by decide), cs_w9 hs]
  have z : 0 ≤ Int32.ofNat k ∧ Int32.ofNat k ≤ 5 := ⟨ni_lo (by omega), (ni_le (b := 5) (by omega) (by omega)).mpr (by omega)⟩
  refine OPL_ok (v := d 46 0 (11 + k)) (GF_r d) (GF_thrown (v := 0)) CR_u3 (fun n o _ => ?_) (fun n o => ?_)
  · refine EV_bk (k := 400) ?_
    rw [bk_106_0, if_neg (Int32.not_lt.mpr z.1), if_pos (show Int32.ofNat k < 6 from (ni_lt (b := 6) (by omega) (by omega)).mpr (by omega))]
    simp only [hl 27 0 4 rfl (by decide) (by decide), show lk 0 1 5 = true from hl 0 1 5 rfl (by decide) (by decide), cond_true, ni_in (n := k) (N := 6) (by omega) (by omega), ni_c (n := k) (by omega), cs_2 hs (k := k) (by omega)]
  · refine EV_bk (k := 400) ?_
    rw [bk_212_0, em_in z]
    simp (decide := true) only [ev_bi, ↓reduceIte]
    rw [em_throws0 u3s]
    have e : (11 : Int32) + Int32.ofNat k = Int32.ofNat (11 + k) := (Int32.ofNat_add 11 k).symm
    simp only [↓reduceIte, hl 44 0 2 rfl (by decide) (by decide), cond_true, e, ni_in (n := 11 + k) (N := 615) (by omega) (by omega), ni_c (n := 11 + k) (by omega)]
    rw [u3n (by decide)]
theorem ol_greatest (hl : LK lk) (hG : GB d B R C T τ) : OPL (104, 0, [ev_R 27 0], [], 0, 0) (210, 0, [ev_R 44 0], [], 0, 0) lk d (d 46 0 18) := by
  obtain ⟨h, g1, g2, -, -, ⟨K, hs⟩, hI⟩ := hG
  obtain ⟨⟨t0, t1, b1, b4, r1, r16⟩, -⟩ := id g1
  have hB := g2.1.trans t0
  have hR := g2.2.1.trans t1
  have h40 := cs_C hs
  have hC := (cs_ct hs).trans (cs_w9 hs)
  have hC' : ev_u3 d 44 0 0 0 46 0 9 = Int32.ofNat C := by rw [u3n (by decide), cs_w9 hs]
  refine OPL_ok (v := d 46 0 18) (GF_r d) (GF_thrown (v := 0)) CR_u3 (fun n o _ => ?_) (fun n o => ?_)
  · refine EV_bk (k := 400) ?_
    rw [bk_104_0, hl 27 0 4 rfl (by decide) (by decide), cond_true, cs_gr hs]
  · refine EV_bk (k := 400) ?_
    rw [bk_210_0, hl 44 0 2 rfl (by decide) (by decide), cond_true]
theorem ol_isWhole (hl : LK lk) (hG : GB d B R C T τ) : OPL (105, 0, [ev_R 27 0], [], 0, 0) (211, 0, [ev_R 44 0], [], 0, 0) lk d (if ms_sum (d 46 0) B = d 46 0 11 - d 46 0 12 then 1 else 0) := by
  obtain ⟨h, g1, g2, -, -, ⟨K, hs⟩, hI⟩ := hG
  obtain ⟨⟨t0, t1, b1, b4, r1, r16⟩, -⟩ := id g1
  have hB := g2.1.trans t0
  have hR := g2.2.1.trans t1
  have h40 := cs_C hs
  have hC := (cs_ct hs).trans (cs_w9 hs)
  have hC' : ev_u3 d 44 0 0 0 46 0 9 = Int32.ofNat C := by rw [u3n (by decide), cs_w9 hs]
  refine OPL_ok (v := if ms_sum (d 46 0) B = d 46 0 11 - d 46 0 12 then 1 else 0) (GF_r d) (GF_thrown (v := 0)) CR_u3 (fun n o _ => ?_) (fun n o => ?_)
  · have loop : ∀ j k, k + j = B → EV (105, 4, [ev_R 27 0, ev_I (ms_sum (d 46 0) k), ev_I (Int32.ofNat k)], [], 0, 0) (n, lk, d, o) = some (.inl (some (ev_I (if ms_sum (d 46 0) B = d 46 0 11 - d 46 0 12 then 1 else 0))), (n, lk, d, o)) := by
      intro j
      induction j with
      | zero =>
        intro k hk
        have e : k = B := by omega
        subst e
        refine EV_bk (k := 400) ?_
        rw [bk_105_4, hl 27 0 3 rfl (by decide) (by decide), cond_true, g2.1, t0, if_neg (fun z => by have := (ni_lt (by omega) (by omega)).mp z; omega)]
        have q0 : d 2 1 0 = d 46 0 11 := cs_2 hs (k := 0) (by decide)
        have q1 : d 2 1 1 = d 46 0 12 := cs_2 hs (k := 1) (by decide)
        simp only [hl 27 0 4 rfl (by decide) (by decide), show lk 0 1 5 = true from hl 0 1 5 rfl (by decide) (by decide), cond_true, q0, q1]
        split <;> rfl
      | succ j ih =>
        intro k hk
        have hlt : Int32.ofNat k < Int32.ofNat B := (ni_lt (by omega) (by omega)).mpr (by omega)
        refine EV_bk (k := 400) ?_
        rw [bk_105_4, hl 27 0 3 rfl (by decide) (by decide), cond_true, g2.1, t0, if_pos hlt]
        simp only [hl 27 0 4 rfl (by decide) (by decide), show lk 0 1 6 = true from hl 0 1 6 rfl (by decide) (by decide), show lk 3 1 0 = true from hl 3 1 0 rfl (by decide) (by decide), cond_true, ni_in (n := k) (N := 4) (by omega) (by omega), ni_c (n := k) (by omega), cs_4 hs (b := k) (by omega), ni_1]
        exact ih (k + 1) (by omega)
    refine EV_bk (k := 400) ?_
    rw [bk_105_0]
    exact loop B 0 (by omega)
  · have hB : ev_u3 d 44 0 0 0 45 0 0 = Int32.ofNat B := by rw [u3n (by decide), t0]
    have loop : ∀ j k, k + j = B → EV (211, 9, [ev_R 44 0, ev_I (ms_sum (d 46 0) k), ev_I (Int32.ofNat k)], [], 0, 0) (n, lk, ev_u3 d 44 0 0 0, o) = some (.inl (some (ev_I (if ms_sum (d 46 0) B = d 46 0 11 - d 46 0 12 then 1 else 0))), (n, lk, ev_u3 d 44 0 0 0, o)) := by
      intro j
      induction j with
      | zero =>
        intro k hk
        have e : k = B := by omega
        subst e
        refine EV_bk (k := 400) ?_
        rw [bk_211_9, hl 44 0 1 rfl (by decide) (by decide), cond_true, hB, if_neg (fun z => by have := (ni_lt (by omega) (by omega)).mp z; omega), hl 44 0 2 rfl (by decide) (by decide), cond_true, cond_true, u3n (by decide)]
        split <;> rfl
      | succ j ih =>
        intro k hk
        have hlt : Int32.ofNat k < Int32.ofNat B := (ni_lt (by omega) (by omega)).mpr (by omega)
        refine EV_bk (k := 400) ?_
        rw [bk_211_9, hl 44 0 1 rfl (by decide) (by decide), cond_true, hB, if_pos hlt, em_of hl (w := 0) (x := 0) rfl (by omega)]
        simp only [ev_bi, ni_1]
        rw [u3n (by decide)]
        exact ih (k + 1) (by omega)
    refine EV_bk (k := 400) ?_
    rw [bk_211_0]
    exact loop B 0 (by omega)
theorem ol_bank (hl : LK lk) (hG : GB d B R C T τ) {b k : Nat} (hb : b < B) (hk : k < 9) : OPL (92, 0, [ev_R 27 0, ev_I (Int32.ofNat b), ev_I (Int32.ofNat k)], [], 0, 0) (197, 0, [ev_R 44 0, ev_I (Int32.ofNat b), ev_I (Int32.ofNat k)], [], 0, 0) lk d (ol_bkv (d 46 0) C b k) := by
  obtain ⟨h, g1, g2, -, -, ⟨K, hs⟩, hI⟩ := hG
  obtain ⟨⟨t0, t1, b1, b4, r1, r16⟩, -⟩ := id g1
  have hB := g2.1.trans t0
  have hR := g2.2.1.trans t1
  have h40 := cs_C hs
  have hC := (cs_ct hs).trans (cs_w9 hs)
  have hC' : ev_u3 d 44 0 0 0 46 0 9 = Int32.ofNat C := by rw [u3n (by decide), cs_w9 hs]
  have zb : 0 ≤ Int32.ofNat b ∧ Int32.ofNat b < Int32.ofNat B := ⟨ni_lo (by omega), (ni_lt (by omega) (by omega)).mpr hb⟩
  have z : 0 ≤ Int32.ofNat k ∧ Int32.ofNat k ≤ 8 := ⟨ni_lo (by omega), (ni_le (b := 8) (by omega) (by omega)).mpr (by omega)⟩
  match k, hk, z with
  | 0, _, z =>
    refine OPL_ok (v := d 46 0 (19 + 9 * b + 0)) (GF_r d) (GF_thrown (v := 0)) CR_u3 (fun n o hn => ?_) (fun n o => ?_)
    · refine EV_bk (k := 400) ?_
      rw [bk_92_0, ec_reqBank hl hn hB, if_pos zb]
      simp (decide := true) only [ev_bv, ↓reduceIte, hl 27 0 4 rfl (by decide) (by decide), show lk 0 1 6 = true from hl 0 1 6 rfl (by decide) (by decide), show lk 3 1 0 = true from hl 3 1 0 rfl (by decide) (by decide), cond_true, ni_in (n := b) (N := 4) (by omega) (by omega), ni_c (n := b) (by omega), cs_4 hs (b := b) (by omega)]
    · refine EV_bk (k := 400) ?_
      rw [bk_197_0, em_noBank hl t0 b4, if_pos zb]
      simp (decide := true) only [ev_bi, ↓reduceIte]
      rw [em_in z]
      simp (decide := true) only [↓reduceIte]
      rw [em_throws0 u3s]
      simp (decide := true) only [↓reduceIte]
      rw [em_of hl (w := 0) (x := Int32.ofNat 0) rfl (by omega), u3n (by decide)]
  | 1, _, z =>
    refine OPL_ok (v := d 46 0 (19 + 9 * b + 1)) (GF_r d) (GF_thrown (v := 0)) CR_u3 (fun n o hn => ?_) (fun n o => ?_)
    · refine EV_bk (k := 400) ?_
      rw [bk_92_0, ec_reqBank hl hn hB, if_pos zb]
      simp (decide := true) only [ev_bv, ↓reduceIte, hl 27 0 4 rfl (by decide) (by decide), show lk 0 1 6 = true from hl 0 1 6 rfl (by decide) (by decide), show lk 3 1 1 = true from hl 3 1 1 rfl (by decide) (by decide), cond_true, ni_in (n := b) (N := 4) (by omega) (by omega), ni_c (n := b) (by omega), cs_5 hs (b := b) (by omega)]
    · refine EV_bk (k := 400) ?_
      rw [bk_197_0, em_noBank hl t0 b4, if_pos zb]
      simp (decide := true) only [ev_bi, ↓reduceIte]
      rw [em_in z]
      simp (decide := true) only [↓reduceIte]
      rw [em_throws0 u3s]
      simp (decide := true) only [↓reduceIte]
      rw [em_of hl (w := 1) (x := Int32.ofNat 1) rfl (by omega), u3n (by decide)]
  | 2, _, z =>
    refine OPL_ok (v := Int32.ofNat (ms_many (d 46 0) b 1 C)) (GF_r d) (GF_thrown (v := 0)) CR_u3 (fun n o hn => ?_) (fun n o => ?_)
    · refine EV_bk (k := 400) ?_
      rw [bk_92_0, ec_reqBank hl hn hB, if_pos zb]
      simp (decide := true) only [ev_bv, ↓reduceIte, hl 27 0 4 rfl (by decide) (by decide), show lk 0 1 8 = true from hl 0 1 8 rfl (by decide) (by decide), cond_true, ec_countOfBank hl (i := 1) (by decide) hs, ev_bi]
    · refine EV_bk (k := 400) ?_
      rw [bk_197_0, em_noBank hl t0 b4, if_pos zb]
      simp (decide := true) only [ev_bi, ↓reduceIte]
      rw [em_in z]
      simp (decide := true) only [↓reduceIte]
      rw [em_throws0 u3s]
      simp (decide := true) only [↓reduceIte]
      rw [em_waitingOf hl hC' (cs_C hs), u3n (by decide)]
  | 3, _, z =>
    refine OPL_ok (v := d 46 0 (19 + 9 * b + 2)) (GF_r d) (GF_thrown (v := 0)) CR_u3 (fun n o hn => ?_) (fun n o => ?_)
    · refine EV_bk (k := 400) ?_
      rw [bk_92_0, ec_reqBank hl hn hB, if_pos zb]
      simp (decide := true) only [ev_bv, ↓reduceIte, hl 27 0 4 rfl (by decide) (by decide), show lk 0 1 8 = true from hl 0 1 8 rfl (by decide) (by decide), cond_true, ec_countOfBank hl (i := 1) (by decide) hs, ev_bi]
      rw [hI.2.2.2.2.2.2.1 b (by omega)]
    · refine EV_bk (k := 400) ?_
      rw [bk_197_0, em_noBank hl t0 b4, if_pos zb]
      simp (decide := true) only [ev_bi, ↓reduceIte]
      rw [em_in z]
      simp (decide := true) only [↓reduceIte]
      rw [em_throws0 u3s]
      simp (decide := true) only [↓reduceIte]
      rw [em_of hl (w := 2) (x := Int32.ofNat 3 - 1) (by decide) (by omega), u3n (by decide)]
  | 4, _, z =>
    refine OPL_ok (v := d 46 0 (19 + 9 * b + 3)) (GF_r d) (GF_thrown (v := 0)) CR_u3 (fun n o hn => ?_) (fun n o => ?_)
    · refine EV_bk (k := 400) ?_
      rw [bk_92_0, ec_reqBank hl hn hB, if_pos zb]
      simp (decide := true) only [ev_bv, ↓reduceIte, hl 27 0 4 rfl (by decide) (by decide), show lk 0 1 6 = true from hl 0 1 6 rfl (by decide) (by decide), show lk 3 1 2 = true from hl 3 1 2 rfl (by decide) (by decide), cond_true, ni_in (n := b) (N := 4) (by omega) (by omega), ni_c (n := b) (by omega), cs_6 hs (b := b) (by omega)]
    · refine EV_bk (k := 400) ?_
      rw [bk_197_0, em_noBank hl t0 b4, if_pos zb]
      simp (decide := true) only [ev_bi, ↓reduceIte]
      rw [em_in z]
      simp (decide := true) only [↓reduceIte]
      rw [em_throws0 u3s]
      simp (decide := true) only [↓reduceIte]
      rw [em_of hl (w := 3) (x := Int32.ofNat 4 - 1) (by decide) (by omega), u3n (by decide)]
  | 5, _, z =>
    refine OPL_ok (v := d 46 0 (19 + 9 * b + 4)) (GF_r d) (GF_thrown (v := 0)) CR_u3 (fun n o hn => ?_) (fun n o => ?_)
    · refine EV_bk (k := 400) ?_
      rw [bk_92_0, ec_reqBank hl hn hB, if_pos zb]
      simp (decide := true) only [ev_bv, ↓reduceIte, hl 27 0 4 rfl (by decide) (by decide), show lk 0 1 6 = true from hl 0 1 6 rfl (by decide) (by decide), show lk 3 1 3 = true from hl 3 1 3 rfl (by decide) (by decide), cond_true, ni_in (n := b) (N := 4) (by omega) (by omega), ni_c (n := b) (by omega), cs_7 hs (b := b) (by omega)]
    · refine EV_bk (k := 400) ?_
      rw [bk_197_0, em_noBank hl t0 b4, if_pos zb]
      simp (decide := true) only [ev_bi, ↓reduceIte]
      rw [em_in z]
      simp (decide := true) only [↓reduceIte]
      rw [em_throws0 u3s]
      simp (decide := true) only [↓reduceIte]
      rw [em_of hl (w := 4) (x := Int32.ofNat 5 - 1) (by decide) (by omega), u3n (by decide)]
  | 6, _, z =>
    refine OPL_ok (v := d 46 0 (19 + 9 * b + 5)) (GF_r d) (GF_thrown (v := 0)) CR_u3 (fun n o hn => ?_) (fun n o => ?_)
    · refine EV_bk (k := 400) ?_
      rw [bk_92_0, ec_reqBank hl hn hB, if_pos zb]
      simp (decide := true) only [ev_bv, ↓reduceIte, hl 27 0 4 rfl (by decide) (by decide), show lk 0 1 6 = true from hl 0 1 6 rfl (by decide) (by decide), show lk 3 1 4 = true from hl 3 1 4 rfl (by decide) (by decide), cond_true, ni_in (n := b) (N := 4) (by omega) (by omega), ni_c (n := b) (by omega), cs_8 hs (b := b) (by omega)]
    · refine EV_bk (k := 400) ?_
      rw [bk_197_0, em_noBank hl t0 b4, if_pos zb]
      simp (decide := true) only [ev_bi, ↓reduceIte]
      rw [em_in z]
      simp (decide := true) only [↓reduceIte]
      rw [em_throws0 u3s]
      simp (decide := true) only [↓reduceIte]
      rw [em_of hl (w := 5) (x := Int32.ofNat 6 - 1) (by decide) (by omega), u3n (by decide)]
  | 7, _, z =>
    refine OPL_ok (v := d 46 0 (19 + 9 * b + 6)) (GF_r d) (GF_thrown (v := 0)) CR_u3 (fun n o hn => ?_) (fun n o => ?_)
    · refine EV_bk (k := 400) ?_
      rw [bk_92_0, ec_reqBank hl hn hB, if_pos zb]
      simp (decide := true) only [ev_bv, ↓reduceIte, hl 27 0 4 rfl (by decide) (by decide), show lk 0 1 6 = true from hl 0 1 6 rfl (by decide) (by decide), show lk 3 1 5 = true from hl 3 1 5 rfl (by decide) (by decide), cond_true, ni_in (n := b) (N := 4) (by omega) (by omega), ni_c (n := b) (by omega), cs_9 hs (b := b) (by omega)]
    · refine EV_bk (k := 400) ?_
      rw [bk_197_0, em_noBank hl t0 b4, if_pos zb]
      simp (decide := true) only [ev_bi, ↓reduceIte]
      rw [em_in z]
      simp (decide := true) only [↓reduceIte]
      rw [em_throws0 u3s]
      simp (decide := true) only [↓reduceIte]
      rw [em_of hl (w := 6) (x := Int32.ofNat 7 - 1) (by decide) (by omega), u3n (by decide)]
  | 8, _, z =>
    refine OPL_ok (v := d 46 0 (19 + 9 * b + 7)) (GF_r d) (GF_thrown (v := 0)) CR_u3 (fun n o hn => ?_) (fun n o => ?_)
    · refine EV_bk (k := 400) ?_
      rw [bk_92_0, ec_reqBank hl hn hB, if_pos zb]
      simp (decide := true) only [ev_bv, ↓reduceIte, hl 27 0 4 rfl (by decide) (by decide), show lk 0 1 6 = true from hl 0 1 6 rfl (by decide) (by decide), show lk 3 1 6 = true from hl 3 1 6 rfl (by decide) (by decide), cond_true, ni_in (n := b) (N := 4) (by omega) (by omega), ni_c (n := b) (by omega), cs_10 hs (b := b) (by omega)]
    · refine EV_bk (k := 400) ?_
      rw [bk_197_0, em_noBank hl t0 b4, if_pos zb]
      simp (decide := true) only [ev_bi, ↓reduceIte]
      rw [em_in z]
      simp (decide := true) only [↓reduceIte]
      rw [em_throws0 u3s]
      simp (decide := true) only [↓reduceIte]
      rw [em_of hl (w := 7) (x := Int32.ofNat 8 - 1) (by decide) (by omega), u3n (by decide)]
theorem ol_request (hl : LK lk) (hG : GB d B R C T τ) {q k : Nat} (hq : q < C) (hk : k < 5) : OPL (94, 0, [ev_R 27 0, ev_I (Int32.ofNat q), ev_I (Int32.ofNat k)], [], 0, 0) (199, 0, [ev_R 44 0, ev_I (Int32.ofNat q), ev_I (Int32.ofNat k)], [], 0, 0) lk d (d 46 0 (375 + 6 * q + k)) := by
  obtain ⟨h, g1, g2, -, -, ⟨K, hs⟩, hI⟩ := hG
  obtain ⟨⟨t0, t1, b1, b4, r1, r16⟩, -⟩ := id g1
  have hB := g2.1.trans t0
  have hR := g2.2.1.trans t1
  have h40 := cs_C hs
  have hC := (cs_ct hs).trans (cs_w9 hs)
  have hC' : ev_u3 d 44 0 0 0 46 0 9 = Int32.ofNat C := by rw [u3n (by decide), cs_w9 hs]
  have zb : 0 ≤ Int32.ofNat q ∧ Int32.ofNat q < Int32.ofNat C := ⟨ni_lo (by omega), (ni_lt (by omega) (by omega)).mpr hq⟩
  have z : 0 ≤ Int32.ofNat k ∧ Int32.ofNat k ≤ 4 := ⟨ni_lo (by omega), (ni_le (b := 4) (by omega) (by omega)).mpr (by omega)⟩
  match k, hk, z with
  | 0, _, z =>
    refine OPL_ok (v := d 46 0 (375 + 6 * q + 0)) (GF_r d) (GF_thrown (v := 0)) CR_u3 (fun n o hn => ?_) (fun n o => ?_)
    · refine EV_bk (k := 400) ?_
      rw [bk_94_0, ec_reqRequest hl hn hC, if_pos zb]
      simp (decide := true) only [ev_bv, ↓reduceIte, hl 27 0 4 rfl (by decide) (by decide), show lk 0 1 8 = true from hl 0 1 8 rfl (by decide) (by decide), show lk 17 1 2 = true from hl 17 1 2 rfl (by decide) (by decide), cond_true, ni_in (n := q) (N := 40) (by omega) (by omega), ni_c (n := q) (by omega), cs_18 hs (q := q) (by omega)]
    · refine EV_bk (k := 400) ?_
      rw [bk_199_0, em_noRequest hl (cs_w9 hs) h40, if_pos zb]
      simp (decide := true) only [ev_bi, ↓reduceIte]
      rw [em_in z]
      simp (decide := true) only [↓reduceIte]
      rw [em_throws0 u3s]
      simp (decide := true) only [↓reduceIte]
      rw [em_ofRequest hl (w := 0) (x := Int32.ofNat 0) rfl (by omega), u3n (by decide)]
  | 1, _, z =>
    refine OPL_ok (v := d 46 0 (375 + 6 * q + 1)) (GF_r d) (GF_thrown (v := 0)) CR_u3 (fun n o hn => ?_) (fun n o => ?_)
    · refine EV_bk (k := 400) ?_
      rw [bk_94_0, ec_reqRequest hl hn hC, if_pos zb]
      simp (decide := true) only [ev_bv, ↓reduceIte, hl 27 0 4 rfl (by decide) (by decide), show lk 0 1 8 = true from hl 0 1 8 rfl (by decide) (by decide), show lk 17 1 3 = true from hl 17 1 3 rfl (by decide) (by decide), cond_true, ni_in (n := q) (N := 40) (by omega) (by omega), ni_c (n := q) (by omega), cs_19 hs (q := q) (by omega)]
    · refine EV_bk (k := 400) ?_
      rw [bk_199_0, em_noRequest hl (cs_w9 hs) h40, if_pos zb]
      simp (decide := true) only [ev_bi, ↓reduceIte]
      rw [em_in z]
      simp (decide := true) only [↓reduceIte]
      rw [em_throws0 u3s]
      simp (decide := true) only [↓reduceIte]
      rw [em_ofRequest hl (w := 1) (x := Int32.ofNat 1) rfl (by omega), u3n (by decide)]
  | 2, _, z =>
    refine OPL_ok (v := d 46 0 (375 + 6 * q + 2)) (GF_r d) (GF_thrown (v := 0)) CR_u3 (fun n o hn => ?_) (fun n o => ?_)
    · refine EV_bk (k := 400) ?_
      rw [bk_94_0, ec_reqRequest hl hn hC, if_pos zb]
      simp (decide := true) only [ev_bv, ↓reduceIte, hl 27 0 4 rfl (by decide) (by decide), show lk 0 1 8 = true from hl 0 1 8 rfl (by decide) (by decide), show lk 17 1 4 = true from hl 17 1 4 rfl (by decide) (by decide), cond_true, ni_in (n := q) (N := 40) (by omega) (by omega), ni_c (n := q) (by omega), cs_20 hs (q := q) (by omega)]
    · refine EV_bk (k := 400) ?_
      rw [bk_199_0, em_noRequest hl (cs_w9 hs) h40, if_pos zb]
      simp (decide := true) only [ev_bi, ↓reduceIte]
      rw [em_in z]
      simp (decide := true) only [↓reduceIte]
      rw [em_throws0 u3s]
      simp (decide := true) only [↓reduceIte]
      rw [em_ofRequest hl (w := 2) (x := Int32.ofNat 2) rfl (by omega), u3n (by decide)]
  | 3, _, z =>
    refine OPL_ok (v := d 46 0 (375 + 6 * q + 3)) (GF_r d) (GF_thrown (v := 0)) CR_u3 (fun n o hn => ?_) (fun n o => ?_)
    · refine EV_bk (k := 400) ?_
      rw [bk_94_0, ec_reqRequest hl hn hC, if_pos zb]
      simp (decide := true) only [ev_bv, ↓reduceIte, hl 27 0 4 rfl (by decide) (by decide), show lk 0 1 8 = true from hl 0 1 8 rfl (by decide) (by decide), show lk 17 1 5 = true from hl 17 1 5 rfl (by decide) (by decide), cond_true, ni_in (n := q) (N := 40) (by omega) (by omega), ni_c (n := q) (by omega), cs_21 hs (q := q) (by omega)]
    · refine EV_bk (k := 400) ?_
      rw [bk_199_0, em_noRequest hl (cs_w9 hs) h40, if_pos zb]
      simp (decide := true) only [ev_bi, ↓reduceIte]
      rw [em_in z]
      simp (decide := true) only [↓reduceIte]
      rw [em_throws0 u3s]
      simp (decide := true) only [↓reduceIte]
      rw [em_ofRequest hl (w := 3) (x := Int32.ofNat 3) rfl (by omega), u3n (by decide)]
  | 4, _, z =>
    refine OPL_ok (v := d 46 0 (375 + 6 * q + 4)) (GF_r d) (GF_thrown (v := 0)) CR_u3 (fun n o hn => ?_) (fun n o => ?_)
    · refine EV_bk (k := 400) ?_
      rw [bk_94_0, ec_reqRequest hl hn hC, if_pos zb]
      simp (decide := true) only [ev_bv, ↓reduceIte, hl 27 0 4 rfl (by decide) (by decide), show lk 0 1 8 = true from hl 0 1 8 rfl (by decide) (by decide), show lk 17 1 6 = true from hl 17 1 6 rfl (by decide) (by decide), cond_true, ni_in (n := q) (N := 40) (by omega) (by omega), ni_c (n := q) (by omega), cs_22 hs (q := q) (by omega)]
    · refine EV_bk (k := 400) ?_
      rw [bk_199_0, em_noRequest hl (cs_w9 hs) h40, if_pos zb]
      simp (decide := true) only [ev_bi, ↓reduceIte]
      rw [em_in z]
      simp (decide := true) only [↓reduceIte]
      rw [em_throws0 u3s]
      simp (decide := true) only [↓reduceIte]
      rw [em_ofRequest hl (w := 4) (x := Int32.ofNat 4) rfl (by omega), u3n (by decide)]
theorem ol_row (hl : LK lk) (hG : GB d B R C T τ) {b r k : Nat} (hb : b < B) (hr : r < R) (hk : k < 9) : OPL (93, 0, [ev_R 27 0, ev_I (Int32.ofNat b), ev_I (Int32.ofNat r), ev_I (Int32.ofNat k)], [], 0, 0) (198, 0, [ev_R 44 0, ev_I (Int32.ofNat b), ev_I (Int32.ofNat r), ev_I (Int32.ofNat k)], [], 0, 0) lk d (ol_rwv d b r k) := by
  obtain ⟨h, g1, g2, -, -, ⟨K, hs⟩, hI⟩ := hG
  obtain ⟨⟨t0, t1, b1, b4, r1, r16⟩, -⟩ := id g1
  have hB := g2.1.trans t0
  have hR := g2.2.1.trans t1
  have h40 := cs_C hs
  have hC := (cs_ct hs).trans (cs_w9 hs)
  have hC' : ev_u3 d 44 0 0 0 46 0 9 = Int32.ofNat C := by rw [u3n (by decide), cs_w9 hs]
  have hc : 16 * b + r < 64 := by omega
  have hbm := mc_ms_bound (b := b) (r := r) g2 hs (by omega) (by omega)
  have zb : (0 ≤ Int32.ofNat b ∧ Int32.ofNat b < Int32.ofNat B) ∧ (0 ≤ Int32.ofNat r ∧ Int32.ofNat r < Int32.ofNat R) := ⟨⟨ni_lo (by omega), (ni_lt (by omega) (by omega)).mpr hb⟩, ⟨ni_lo (by omega), (ni_lt (by omega) (by omega)).mpr hr⟩⟩
  have zk : 0 ≤ Int32.ofNat k ∧ Int32.ofNat k ≤ 8 := ⟨ni_lo (by omega), (ni_le (b := 8) (by omega) (by omega)).mpr (by omega)⟩
  match k, hk, zk with
  | 0, _, zk =>
    refine OPL_ok (v := d 46 0 (55 + 5 * (16 * b + r) + 0)) (GF_r d) (GF_thrown (v := 0)) CR_u3 (fun n o hn => ?_) (fun n o => ?_)
    · refine EV_bk (k := 400) ?_
      rw [bk_93_0, ec_reqRow hl hn hB hR, if_pos zb]
      simp only [ev_bv]
      rw [ec_cellOf]
      simp (decide := true) only [ev_bi, ↓reduceIte, hl 27 0 4 rfl (by decide) (by decide), show lk 0 1 7 = true from hl 0 1 7 rfl (by decide) (by decide), show lk 11 1 0 = true from hl 11 1 0 rfl (by decide) (by decide), cond_true, ni_in (n := 16 * b + r) (N := 64) (by omega) (by omega), ni_c (n := 16 * b + r) (by omega), cs_12 hs hc]
    · refine EV_bk (k := 400) ?_
      rw [bk_198_0, em_noRow hl t0 b4 t1 r16, if_pos zb]
      simp (decide := true) only [ev_bi, ↓reduceIte]
      rw [em_in zk]
      simp (decide := true) only [↓reduceIte]
      rw [em_throws0 u3s]
      simp (decide := true) only [↓reduceIte]
      rw [em_ofRow hl (w := 0) (x := 0) rfl (by omega), u3n (by decide)]
  | 1, _, zk =>
    refine OPL_ok (v := ms_bound (d 45 0) (d 46 0) b r) (GF_r d) (GF_thrown (v := 0)) CR_u3 (fun n o hn => ?_) (fun n o => ?_)
    · refine EV_bk (k := 400) ?_
      rw [bk_93_0, ec_reqRow hl hn hB hR, if_pos zb]
      simp only [ev_bv]
      rw [ec_cellOf]
      simp (decide := true) only [ev_bi, ↓reduceIte, hl 27 0 3 rfl (by decide) (by decide), hl 27 0 4 rfl (by decide) (by decide), cond_true]
      rw [ec_boundOf (d := d) hl (i := 1) (l := 1) (by decide) (by decide) (b := b) (r := r) (by omega) (by omega), hbm]
    · refine EV_bk (k := 400) ?_
      rw [bk_198_0, em_noRow hl t0 b4 t1 r16, if_pos zb]
      simp (decide := true) only [ev_bi, ↓reduceIte]
      rw [em_in zk]
      simp (decide := true) only [↓reduceIte]
      rw [em_throws0 u3s]
      simp (decide := true) only [↓reduceIte]
      rw [em_isHot hl (by omega)]
      simp only []
      rw [em_boundOf hl (by omega) (by omega), u3n (r' := 46) (by decide), u3n (r' := 45) (by decide)]
      unfold ms_bound
      by_cases hh : ms_hot (d 46 0) b
      · simp only [if_pos hh]
        rw [if_neg (by decide)]
      · simp only [if_neg hh]
        rw [if_pos trivial]
  | 2, _, zk =>
    refine OPL_ok (v := ms_rem (d 45 0) (d 46 0) b r) (GF_r d) (GF_thrown (v := 0)) CR_u3 (fun n o hn => ?_) (fun n o => ?_)
    · refine EV_bk (k := 400) ?_
      rw [bk_93_0, ec_reqRow hl hn hB hR, if_pos zb]
      simp only [ev_bv]
      rw [ec_cellOf]
      simp (decide := true) only [ev_bi, ↓reduceIte, hl 27 0 3 rfl (by decide) (by decide), hl 27 0 4 rfl (by decide) (by decide), cond_true]
      rw [ec_boundOf (d := d) hl (i := 1) (l := 1) (by decide) (by decide) (b := b) (r := r) (by omega) (by omega), hbm]
      simp only [hl 27 0 4 rfl (by decide) (by decide), show lk 0 1 7 = true from hl 0 1 7 rfl (by decide) (by decide), show lk 11 1 0 = true from hl 11 1 0 rfl (by decide) (by decide), cond_true, ni_in (n := 16 * b + r) (N := 64) (by omega) (by omega), ni_c (n := 16 * b + r) (by omega), cs_12 hs hc]
      rfl
    · refine EV_bk (k := 400) ?_
      rw [bk_198_0, em_noRow hl t0 b4 t1 r16, if_pos zb]
      simp (decide := true) only [ev_bi, ↓reduceIte]
      rw [em_in zk]
      simp (decide := true) only [↓reduceIte]
      rw [em_throws0 u3s]
      simp (decide := true) only [↓reduceIte]
      rw [em_remains hl (by omega) (by omega), u3n (r' := 46) (by decide), u3n (r' := 45) (by decide)]
  | 3, _, zk =>
    refine OPL_ok (v := d 46 0 (55 + 5 * (16 * b + r) + 1)) (GF_r d) (GF_thrown (v := 0)) CR_u3 (fun n o hn => ?_) (fun n o => ?_)
    · refine EV_bk (k := 400) ?_
      rw [bk_93_0, ec_reqRow hl hn hB hR, if_pos zb]
      simp only [ev_bv]
      rw [ec_cellOf]
      simp (decide := true) only [ev_bi, ↓reduceIte, hl 27 0 4 rfl (by decide) (by decide), show lk 0 1 7 = true from hl 0 1 7 rfl (by decide) (by decide), show lk 11 1 1 = true from hl 11 1 1 rfl (by decide) (by decide), cond_true, ni_in (n := 16 * b + r) (N := 64) (by omega) (by omega), ni_c (n := 16 * b + r) (by omega), cs_13 hs hc]
    · refine EV_bk (k := 400) ?_
      rw [bk_198_0, em_noRow hl t0 b4 t1 r16, if_pos zb]
      simp (decide := true) only [ev_bi, ↓reduceIte]
      rw [em_in zk]
      simp (decide := true) only [↓reduceIte]
      rw [em_throws0 u3s]
      simp (decide := true) only [↓reduceIte]
      rw [em_ofRow hl (w := 1) (x := Int32.ofNat 3 - 2) (by decide) (by omega), u3n (by decide)]
  | 4, _, zk =>
    refine OPL_ok (v := d 46 0 (55 + 5 * (16 * b + r) + 2)) (GF_r d) (GF_thrown (v := 0)) CR_u3 (fun n o hn => ?_) (fun n o => ?_)
    · refine EV_bk (k := 400) ?_
      rw [bk_93_0, ec_reqRow hl hn hB hR, if_pos zb]
      simp only [ev_bv]
      rw [ec_cellOf]
      simp (decide := true) only [ev_bi, ↓reduceIte, hl 27 0 4 rfl (by decide) (by decide), show lk 0 1 7 = true from hl 0 1 7 rfl (by decide) (by decide), show lk 11 1 2 = true from hl 11 1 2 rfl (by decide) (by decide), cond_true, ni_in (n := 16 * b + r) (N := 64) (by omega) (by omega), ni_c (n := 16 * b + r) (by omega), cs_14 hs hc]
    · refine EV_bk (k := 400) ?_
      rw [bk_198_0, em_noRow hl t0 b4 t1 r16, if_pos zb]
      simp (decide := true) only [ev_bi, ↓reduceIte]
      rw [em_in zk]
      simp (decide := true) only [↓reduceIte]
      rw [em_throws0 u3s]
      simp (decide := true) only [↓reduceIte]
      rw [em_ofRow hl (w := 2) (x := Int32.ofNat 4 - 2) (by decide) (by omega), u3n (by decide)]
  | 5, _, zk =>
    refine OPL_ok (v := d 46 0 (55 + 5 * (16 * b + r) + 3)) (GF_r d) (GF_thrown (v := 0)) CR_u3 (fun n o hn => ?_) (fun n o => ?_)
    · refine EV_bk (k := 400) ?_
      rw [bk_93_0, ec_reqRow hl hn hB hR, if_pos zb]
      simp only [ev_bv]
      rw [ec_cellOf]
      simp (decide := true) only [ev_bi, ↓reduceIte, hl 27 0 4 rfl (by decide) (by decide), show lk 0 1 7 = true from hl 0 1 7 rfl (by decide) (by decide), show lk 11 1 3 = true from hl 11 1 3 rfl (by decide) (by decide), cond_true, ni_in (n := 16 * b + r) (N := 64) (by omega) (by omega), ni_c (n := 16 * b + r) (by omega), cs_15 hs hc]
    · refine EV_bk (k := 400) ?_
      rw [bk_198_0, em_noRow hl t0 b4 t1 r16, if_pos zb]
      simp (decide := true) only [ev_bi, ↓reduceIte]
      rw [em_in zk]
      simp (decide := true) only [↓reduceIte]
      rw [em_throws0 u3s]
      simp (decide := true) only [↓reduceIte]
      rw [em_ofRow hl (w := 3) (x := Int32.ofNat 5 - 2) (by decide) (by omega), u3n (by decide)]
  | 6, _, zk =>
    refine OPL_ok (v := d 46 0 (55 + 5 * (16 * b + r) + 4)) (GF_r d) (GF_thrown (v := 0)) CR_u3 (fun n o hn => ?_) (fun n o => ?_)
    · refine EV_bk (k := 400) ?_
      rw [bk_93_0, ec_reqRow hl hn hB hR, if_pos zb]
      simp only [ev_bv]
      rw [ec_cellOf]
      simp (decide := true) only [ev_bi, ↓reduceIte, hl 27 0 4 rfl (by decide) (by decide), show lk 0 1 7 = true from hl 0 1 7 rfl (by decide) (by decide), show lk 11 1 4 = true from hl 11 1 4 rfl (by decide) (by decide), cond_true, ni_in (n := 16 * b + r) (N := 64) (by omega) (by omega), ni_c (n := 16 * b + r) (by omega), cs_16 hs hc]
    · refine EV_bk (k := 400) ?_
      rw [bk_198_0, em_noRow hl t0 b4 t1 r16, if_pos zb]
      simp (decide := true) only [ev_bi, ↓reduceIte]
      rw [em_in zk]
      simp (decide := true) only [↓reduceIte]
      rw [em_throws0 u3s]
      simp (decide := true) only [↓reduceIte]
      rw [em_ofRow hl (w := 4) (x := Int32.ofNat 6 - 2) (by decide) (by omega), u3n (by decide)]
  | 7, _, zk =>
    refine OPL_ok (v := d 25 1 (16 * b + r)) (GF_r d) (GF_thrown (v := 0)) CR_u3 (fun n o hn => ?_) (fun n o => ?_)
    · refine EV_bk (k := 400) ?_
      rw [bk_93_0, ec_reqRow hl hn hB hR, if_pos zb]
      simp only [ev_bv]
      rw [ec_cellOf]
      simp (decide := true) only [ev_bi, ↓reduceIte, hl 27 0 3 rfl (by decide) (by decide), show lk 24 1 5 = true from hl 24 1 5 rfl (by decide) (by decide), cond_true, ni_in (n := 16 * b + r) (N := 64) (by omega) (by omega), ni_c (n := 16 * b + r) (by omega)]
    · refine EV_bk (k := 400) ?_
      rw [bk_198_0, em_noRow hl t0 b4 t1 r16, if_pos zb]
      simp (decide := true) only [ev_bi, ↓reduceIte]
      rw [em_in zk]
      simp (decide := true) only [↓reduceIte]
      rw [em_throws0 u3s]
      have e1 : ((4 : Int32) + ((2 : Int32) * (((16 : Int32) * Int32.ofNat b) + Int32.ofNat r))) = Int32.ofNat (4 + 2 * (16 * b + r)) := ni_K b r
      simp (decide := true) only [↓reduceIte, hl 44 0 1 rfl (by decide) (by decide), cond_true, e1, ni_in (n := 4 + 2 * (16 * b + r)) (N := 132) (by omega) (by omega), ni_c (n := 4 + 2 * (16 * b + r)) (by omega)]
      rw [u3n (by decide)]
      rcases g2.2.2.2.2 (16 * b + r) hc with ⟨w1, w2, w3⟩ | ⟨w1, w2, w3⟩
      · rw [if_pos (by rw [w3]; decide), w1]
      · rw [if_neg (Int32.not_le.mpr w3), w1]
  | 8, _, zk =>
    refine OPL_ok (v := d 26 1 (16 * b + r)) (GF_r d) (GF_thrown (v := 0)) CR_u3 (fun n o hn => ?_) (fun n o => ?_)
    · refine EV_bk (k := 400) ?_
      rw [bk_93_0, ec_reqRow hl hn hB hR, if_pos zb]
      simp only [ev_bv]
      rw [ec_cellOf]
      simp (decide := true) only [ev_bi, ↓reduceIte, hl 27 0 3 rfl (by decide) (by decide), show lk 24 1 6 = true from hl 24 1 6 rfl (by decide) (by decide), cond_true, ni_in (n := 16 * b + r) (N := 64) (by omega) (by omega), ni_c (n := 16 * b + r) (by omega)]
    · refine EV_bk (k := 400) ?_
      rw [bk_198_0, em_noRow hl t0 b4 t1 r16, if_pos zb]
      simp (decide := true) only [ev_bi, ↓reduceIte]
      rw [em_in zk]
      simp (decide := true) only [↓reduceIte]
      rw [em_throws0 u3s]
      have e1 : ((4 : Int32) + ((2 : Int32) * (((16 : Int32) * Int32.ofNat b) + Int32.ofNat r))) = Int32.ofNat (4 + 2 * (16 * b + r)) := ni_K b r
      have e2 : Int32.ofNat (4 + 2 * (16 * b + r)) + 1 = Int32.ofNat (4 + 2 * (16 * b + r) + 1) := ni_1 _
      simp (decide := true) only [↓reduceIte, hl 44 0 1 rfl (by decide) (by decide), cond_true, e1, e2, ni_in (n := 4 + 2 * (16 * b + r)) (N := 132) (by omega) (by omega), ni_c (n := 4 + 2 * (16 * b + r)) (by omega), ni_in (n := 4 + 2 * (16 * b + r) + 1) (N := 132) (by omega) (by omega), ni_c (n := 4 + 2 * (16 * b + r) + 1) (by omega)]
      rw [u3n (by decide)]
      rcases g2.2.2.2.2 (16 * b + r) hc with ⟨w1, w2, w3⟩ | ⟨w1, w2, w3⟩
      · rw [if_pos (by rw [w3]; decide), w2]
      · rw [if_neg (Int32.not_le.mpr w3), w2]
theorem ol_waiting (hl : LK lk) (hG : GB d B R C T τ) {b k : Nat} (hb : b < B) (hk : k < 40) : OPL (95, 0, [ev_R 27 0, ev_I (Int32.ofNat b), ev_I (Int32.ofNat k)], [], 0, 0) (200, 0, [ev_R 44 0, ev_I (Int32.ofNat b), ev_I (Int32.ofNat k)], [], 0, 0) lk d (ms_en (ms_wat (d 46 0) b C k (-1))) := by
  obtain ⟨h, g1, g2, -, -, ⟨K, hs⟩, hI⟩ := hG
  obtain ⟨⟨t0, t1, b1, b4, r1, r16⟩, -⟩ := id g1
  have hB := g2.1.trans t0
  have hR := g2.2.1.trans t1
  have h40 := cs_C hs
  have hC := (cs_ct hs).trans (cs_w9 hs)
  have hC' : ev_u3 d 44 0 0 0 46 0 9 = Int32.ofNat C := by rw [u3n (by decide), cs_w9 hs]
  have L8 : lk 0 1 8 = true := hl 0 1 8 rfl (by decide) (by decide)
  have zb : 0 ≤ Int32.ofNat b ∧ Int32.ofNat b < Int32.ofNat B := ⟨ni_lo (by omega), (ni_lt (by omega) (by omega)).mpr hb⟩
  have z : 0 ≤ Int32.ofNat k ∧ Int32.ofNat k < Int32.ofNat 40 := ⟨ni_lo (by omega), (ni_lt (by omega) (by omega)).mpr hk⟩
  refine OPL_ok (v := ms_en (ms_wat (d 46 0) b C k (-1))) (GF_r d) (GF_thrown (v := 0)) CR_u3 (fun n o hn => ?_) (fun n o => ?_)
  · refine EV_bk (k := 400) ?_
    rw [bk_95_0, ec_reqBank hl hn hB, if_pos zb]
    simp only [ev_bv, hl 27 0 4 rfl (by decide) (by decide), L8, cond_true]
    rw [ec_inLineOf hl (i := 1) (by decide) hs (by omega) (by omega)]
    rfl
  · refine EV_bk (k := 400) ?_
    rw [bk_200_0, em_noBank hl t0 b4, if_pos zb]
    simp only [ev_bi, ↓reduceIte]
    rw [if_neg (Int32.not_lt.mpr z.1), if_pos (show Int32.ofNat k < 40 from z.2), em_waitingAt hl (C := C) (by rw [u3n (by decide), cs_w9 hs]) (cs_C hs) (by omega), u3n (by decide)]
end OL1
