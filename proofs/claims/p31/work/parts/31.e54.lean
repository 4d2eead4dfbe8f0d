/-! THE PROGRAM AGAINST THE REFERENCE, 40: the least value of a setting -/
def ms_ls (g : Nat → Int32) : Nat → Nat → Int32
  | 0, _ => -1
  | f + 1, m => if g m = -1 then Int32.ofNat m else ms_ls g f (m + 1)
def ms_sS (k S m : Nat) : Nat := if k = 0 then m else S
theorem ev_sa0_n : ∀ k, k < 7 → ∃ L, L < 2 ∧ ev_sa 0 k = Int32.ofNat L := fun k hk => match k, hk with
  | 0, _ => ⟨1, by decide, rfl⟩
  | 1, _ => ⟨1, by decide, rfl⟩
  | 2, _ => ⟨0, by decide, rfl⟩
  | 3, _ => ⟨1, by decide, rfl⟩
  | 4, _ => ⟨1, by decide, rfl⟩
  | 5, _ => ⟨1, by decide, rfl⟩
  | 6, _ => ⟨0, by decide, rfl⟩
theorem ev_sa1_n : ∀ k, k < 7 → ∃ H, 4 ≤ H ∧ H < 100 ∧ ev_sa 1 k = Int32.ofNat H ∧ (k = 0 → H = 4) := fun k hk => match k, hk with
  | 0, _ => ⟨4, by decide, by decide, rfl, fun _ => rfl⟩
  | 1, _ => ⟨8, by decide, by decide, rfl, fun h => by omega⟩
  | 2, _ => ⟨8, by decide, by decide, rfl, fun h => by omega⟩
  | 3, _ => ⟨99, by decide, by decide, rfl, fun h => by omega⟩
  | 4, _ => ⟨20, by decide, by decide, rfl, fun h => by omega⟩
  | 5, _ => ⟨99, by decide, by decide, rfl, fun h => by omega⟩
  | 6, _ => ⟨20, by decide, by decide, rfl, fun h => by omega⟩
section EC29
variable {n : Nat} {lk : Nat → Nat → Nat → Bool} {d : Nat → Nat → Nat → Int32} {o : ev_W}
theorem ec_leastLoop (hl : LK lk) {t w : Nat → Int32} {B R C T τ S k x H L : Nat} (hk : k < 7) (hL : ev_sa 0 k = Int32.ofNat L) (hH : ev_sa 1 k = Int32.ofNat H) (hH1 : H < 100) (hH0 : k = 0 → H = 4) (g1 : TC t B R) (hτ : τ + x ≤ 3000) (hS : w 0 = Int32.ofNat S) (hS4 : S ≤ 4) :
    ∀ f m (d : Nat → Nat → Nat → Int32), m + f = H + 1 → L ≤ m → TW d t T → GS d 1 w B R C T τ → (d 0 1 1 = 0 ∨ d 0 1 1 = 1) →
    ∃ d', EV (100, 31, [ev_R 27 0, ev_I (Int32.ofNat k), ev_I (Int32.ofNat x), ev_I (Int32.ofNat m)], [], 1, 6) (n, lk, d, o) = some (.inl (some (ev_I (ms_ls (fun m => ms_tl t C R B (ms_sS k S m) x (ev_u1 w k (Int32.ofNat m))) f m))), (n, lk, d', o)) ∧ FT d d' 2 := by
  intro f
  induction f with
  | zero =>
    intro m d hm hLm g2 g3 htr
    refine ⟨d, ?_, FT_r d 2⟩
    refine EV_bk (k := 400) ?_
    rw [bk_100_31]
    simp only [ni_in (n := k) (N := 7) (by omega) (by omega), ni_c (n := k) (by omega), cond_true, hH]
    rw [if_neg (fun z => by have := (ni_le (by omega) (by omega)).mp z; omega)]
    rfl
  | succ f ih =>
    intro m d hm hLm g2 g3 htr
    have hle : Int32.ofNat m ≤ Int32.ofNat H := (ni_le (by omega) (by omega)).mpr (by omega)
    obtain ⟨d1, e1, f1, s1⟩ := ec_trial (n := n) (o := o) hl g3 htr
    have s2 := GS_set s1 hk (by rw [hL]; exact (ni_le (by omega) (by omega)).mpr hLm) (by rw [hH]; exact hle) (by omega)
    have f2 : FT d1 (ev_u3 d1 1 2 k (Int32.ofNat m)) 2 := FT_01 (by decide)
    have w2 := TW_FT g2 (FT_t f1 f2)
    have hSm : ev_u1 w k (Int32.ofNat m) 0 = Int32.ofNat (ms_sS k S m) ∧ ms_sS k S m ≤ 4 := by
      unfold ms_sS
      by_cases z : k = 0
      · subst z
        rw [if_pos rfl, u1s]
        exact ⟨rfl, by have := hH0 rfl; omega⟩
      · rw [if_neg z, u1n (by omega)]
        exact ⟨hS, hS4⟩
    obtain ⟨d3, e3, f3⟩ := ec_lossTime (n := n) (o := o) hl (k := x) s2 w2 g1 hSm.1 hSm.2 hτ
    have ff := FT_t (FT_t f1 f2) f3
    obtain ⟨q1, -, -, -⟩ := FT2_1 ff
    have hst : ms_ls (fun m => ms_tl t C R B (ms_sS k S m) x (ev_u1 w k (Int32.ofNat m))) (f + 1) m = if ms_tl t C R B (ms_sS k S m) x (ev_u1 w k (Int32.ofNat m)) = -1 then Int32.ofNat m else ms_ls (fun m => ms_tl t C R B (ms_sS k S m) x (ev_u1 w k (Int32.ofNat m))) f (m + 1) := rfl
    have L4 : lk 0 2 4 = true := hl 0 2 4 rfl (by decide) (by decide)
    by_cases z : ms_tl t C R B (ms_sS k S m) x (ev_u1 w k (Int32.ofNat m)) = -1
    · rw [if_pos z] at hst
      refine ⟨d3, ?_, ff⟩
      refine EV_bk (k := 400) ?_
      rw [bk_100_31]
      simp only [ni_in (n := k) (N := 7) (by omega) (by omega), ni_c (n := k) (by omega), cond_true, hH, hl 27 0 5 rfl (by decide) (by decide), hl 27 0 4 rfl (by decide) (by decide)]
      rw [if_pos hle, e1]
      simp only [ev_bv, hl 27 0 5 rfl (by decide) (by decide), L4, cond_true, ni_in (n := k) (N := 7) (by omega) (by omega), ni_c (n := k) (by omega)]
      rw [e3]
      simp only [ev_bi]
      rw [if_pos z, hst]
    · rw [if_neg z] at hst
      obtain ⟨d', e4, f4⟩ := ih (m + 1) d3 (by omega) (by omega) (TW_FT g2 ff) (GS_d g3 q1) (by rw [q1 0 (by decide)]; exact htr)
      refine ⟨d', ?_, FT_t ff f4⟩
      refine EV_bk (k := 400) ?_
      rw [bk_100_31]
      simp only [ni_in (n := k) (N := 7) (by omega) (by omega), ni_c (n := k) (by omega), cond_true, hH, hl 27 0 5 rfl (by decide) (by decide), hl 27 0 4 rfl (by decide) (by decide)]
      rw [if_pos hle, e1]
      simp only [ev_bv, hl 27 0 5 rfl (by decide) (by decide), L4, cond_true, ni_in (n := k) (N := 7) (by omega) (by omega), ni_c (n := k) (by omega)]
      rw [e3]
      simp only [ev_bi, ni_1]
      rw [if_neg z, hst]
      exact e4
theorem em_leastLoop (hl : LK lk) {d0 : Nat → Nat → Nat → Int32} {t w : Nat → Int32} {B R C T τ S k x H L : Nat} (hk : k < 7) (hL : ev_sa 0 k = Int32.ofNat L) (hH : ev_sa 1 k = Int32.ofNat H) (hH1 : H < 100) (hH0 : k = 0 → H = 4) (g1 : TC t B R) (hτ : τ + x ≤ 3000) (hS : w 0 = Int32.ofNat S) (hS4 : S ≤ 4) (hI : SI w B R C T τ) (hx : x < 1000)
    (h9 : w 9 = Int32.ofNat C) (hG : ∀ m, L ≤ m → m ≤ H → ∃ dm, GS dm 2 (ev_u1 w k (Int32.ofNat m)) B R C T τ ∧ TW dm t T) (hd0 : ∀ j, j < 615 → d0 46 0 j = w j) :
    ∀ f m (d : Nat → Nat → Nat → Int32), m + f = H + 1 → L ≤ m → MT d0 d → d 45 0 = t → (∀ j, j < 615 → d 46 0 j = w j) →
    ∃ d', EV (206, 30, [ev_R 44 0, ev_I (Int32.ofNat k), ev_I (Int32.ofNat x), ev_I (-1), ev_I (Int32.ofNat m)], [], 0, 0) (n, lk, d, o) = some (.inl (some (ev_I (ms_ls (fun m => ms_tl t C R B (ms_sS k S m) x (ev_u1 w k (Int32.ofNat m))) f m))), (n, lk, d', o)) ∧ MT d0 d' ∧ ∀ j, j < 615 → d' 46 0 j = w j := by
  intro f
  induction f with
  | zero =>
    intro m d hm hLm mt h45 h46
    refine ⟨d, ?_, mt, h46⟩
    refine EV_bk (k := 400) ?_
    rw [bk_206_30, em_highOf hk]
    simp only [ev_bi, hH]
    rw [if_neg (fun z => by have := (ni_le (by omega) (by omega)).mp z; omega)]
    rfl
  | succ f ih =>
    intro m d hm hLm mt h45 h46
    have hle : Int32.ofNat m ≤ Int32.ofNat H := (ni_le (by omega) (by omega)).mpr (by omega)
    have c45 : ev_u3 d 46 0 k (Int32.ofNat m) 45 0 = t := by rw [u3n (by decide), h45]
    have c46 : ∀ j, j < 615 → ev_u3 d 46 0 k (Int32.ofNat m) 46 0 j = ev_u1 w k (Int32.ofNat m) j := fun j hj => by
      rw [u3r]
      by_cases e : j = k
      · rw [e, u1s, u1s]
      · rw [u1n e, u1n e, h46 j hj]
    have hSm : ev_u1 w k (Int32.ofNat m) 0 = Int32.ofNat (ms_sS k S m) ∧ ms_sS k S m ≤ 4 := by
      unfold ms_sS
      by_cases z : k = 0
      · subst z
        rw [if_pos rfl, u1s]
        exact ⟨rfl, by have := hH0 rfl; omega⟩
      · rw [if_neg z, u1n (by omega)]
        exact ⟨hS, hS4⟩
    have sI : SI (ev_u3 d 46 0 k (Int32.ofNat m) 46 0) B R C T τ := SI_w (SI_set hI hk (by rw [hL]; exact (ni_le (by omega) (by omega)).mpr hLm) (by rw [hH]; exact hle) (by omega)) c46
    obtain ⟨⟨t0, t1, b1, b4, r1, r16⟩, -, ⟨t3, -⟩, -⟩ := id g1
    have ok : ms_OK (ev_u3 d 46 0 k (Int32.ofNat m)) B R C (ms_sS k S m) := by
      refine ⟨⟨by rw [c45, t0], by rw [c45, t1], fun z => ?_, by rw [c46 9 (by omega), u1n (by omega), h9], by rw [c46 0 (by omega), hSm.1], b1, b4, r1, r16, hI.1.2.1, hSm.2⟩, SI_row sI r16⟩
      rw [c45] at z
      rw [z, show (0 : Int32).toInt = 0 from by decide] at t3
      omega
    obtain ⟨d1, e1, m1, sm1, -⟩ := em_lossesIn (n := n) (o := o) hl (k := x) ok hx
    obtain ⟨l, hl1, hl2, hl3⟩ := ms_ticks_14 (S := ms_sS k S m) g1 x τ _ sI hτ
    rw [m1, c45, hl2, ni_diff] at e1
    obtain ⟨dm, gm, wm⟩ := hG m hLm (by omega)
    rw [ms_tl_c hl (k := x) gm wm g1 hSm.1 hSm.2 hτ c46] at hl3
    have mt1 : MT d0 d1 := MT_same (MT_46 mt) sm1
    have hst : ms_ls (fun m => ms_tl t C R B (ms_sS k S m) x (ev_u1 w k (Int32.ofNat m))) (f + 1) m = if ms_tl t C R B (ms_sS k S m) x (ev_u1 w k (Int32.ofNat m)) = -1 then Int32.ofNat m else ms_ls (fun m => ms_tl t C R B (ms_sS k S m) x (ev_u1 w k (Int32.ofNat m))) f (m + 1) := rfl
    have bb : ∀ j, j < 615 → mm_back d1 46 0 j = w j := fun j hj => by rw [MT_b46 mt1 j hj, hd0 j hj]
    by_cases z : ms_tl t C R B (ms_sS k S m) x (ev_u1 w k (Int32.ofNat m)) = -1
    · rw [if_pos z] at hst
      have l0 := hl3.mpr z
      refine ⟨mm_back d1, ?_, MT_back mt1, bb⟩
      have stop : EV (206, 30, [ev_R 44 0, ev_I (Int32.ofNat k), ev_I (Int32.ofNat x), ev_I (Int32.ofNat m), ev_I (Int32.ofNat (m + 1))], [], 0, 0) (n, lk, mm_back d1, o) = some (.inl (some (ev_I (Int32.ofNat m))), (n, lk, mm_back d1, o)) := by
        refine EV_bk (k := 400) ?_
        rw [bk_206_30, em_highOf hk]
        simp only [ev_bi]
        split
        · rw [if_neg (ms_en_ne (f := m) (by omega))]
        · rfl
      refine EV_bk (k := 400) ?_
      rw [bk_206_30, em_highOf hk]
      simp only [ev_bi, hH]
      rw [if_pos hle, if_pos trivial]
      simp only [Int32.zero_add, hl 44 0 2 rfl (by decide) (by decide), cond_true, ni_in (n := k) (N := 615) (by omega) (by omega), ni_c (n := k) (by omega)]
      rw [e1]
      simp only []
      rw [if_pos (show Int32.ofNat l = 0 by rw [l0]; rfl), em_back hl]
      simp only [ev_bv, ni_1]
      rw [hst]
      exact stop
    · rw [if_neg z] at hst
      have l0 : ¬ Int32.ofNat l = 0 := fun v => z (hl3.mp ((ni_eq (b := 0) (by omega) (by omega)).mp v))
      obtain ⟨d', e4, mt4, b4'⟩ := ih (m + 1) (mm_back d1) (by omega) (by omega) (MT_back mt1) (by rw [mm_back_n (by decide), sm1 45 (by decide) (by decide) (by decide) (by decide) (by decide) (by decide) (by decide), c45]) bb
      refine ⟨d', ?_, mt4, b4'⟩
      refine EV_bk (k := 400) ?_
      rw [bk_206_30, em_highOf hk]
      simp only [ev_bi, hH]
      rw [if_pos hle, if_pos trivial]
      simp only [Int32.zero_add, hl 44 0 2 rfl (by decide) (by decide), cond_true, ni_in (n := k) (N := 615) (by omega) (by omega), ni_c (n := k) (by omega)]
      rw [e1]
      simp only []
      rw [if_neg l0, em_back hl]
      simp only [ev_bv, ni_1]
      rw [hst]
      exact e4
theorem op_leastSetting (hl : LK lk) (h : GI d) {x y : Int32} : OPH (100, 0, [ev_R 27 0, ev_I x, ev_I y], [], 0, 0) (206, 0, [ev_R 44 0, ev_I x, ev_I y], [], 0, 0) kf_A lk d := by
  obtain ⟨B, R, T, C, τ, S, g1, g2, g3, hτ, hS, hS4, htr⟩ := GI_trial h
  obtain ⟨K, hs⟩ := g3.1
  by_cases zx : 0 ≤ x ∧ x ≤ 6
  · obtain ⟨k, hk, ex⟩ := ni_of2 6 (by omega) zx.1 zx.2
    subst ex
    have x0 : ¬ Int32.ofNat k < 0 := Int32.not_lt.mpr zx.1
    have x7 : Int32.ofNat k < 7 := (ni_lt (b := 7) (by omega) (by omega)).mpr (by omega)
    by_cases z : 1 ≤ y ∧ y ≤ 300
    · obtain ⟨p, hp, ey⟩ := ni_of2 300 (by omega) (Int32.le_trans (by decide) z.1) z.2
      subst ey
      obtain ⟨L, hL2, hL⟩ := ev_sa0_n k (by omega)
      obtain ⟨H, hH4, hH1, hH, hH0⟩ := ev_sa1_n k (by omega)
      have hG : ∀ m, L ≤ m → m ≤ H → ∃ dm, GS dm 2 (ev_u1 (d 46 0) k (Int32.ofNat m)) B R C T τ ∧ TW dm (d 45 0) T := fun m h1 h2 => by
        obtain ⟨d1, e1, f1, s1⟩ := ec_trial (n := 0) (o := ev_W0) hl g3 htr
        have s2 := GS_set s1 (k := k) (v := m) (by omega) (by rw [hL]; exact (ni_le (by omega) (by omega)).mpr h1) (by rw [hH]; exact (ni_le (by omega) (by omega)).mpr h2) (by omega)
        have f2 : FT d1 (ev_u3 d1 1 2 k (Int32.ofNat m)) 2 := FT_01 (by decide)
        exact ⟨_, s2, TW_FT g2 (FT_t f1 f2)⟩
      refine OPH_okt h (fun n o hn => ?_)
      obtain ⟨d2, e2, f⟩ := ec_leastLoop (n := n) (o := o) hl (k := k) (x := p) (by omega) hL hH hH1 hH0 g1 (by omega) hS hS4 (H + 1 - L) L d (by omega) (Nat.le_refl L) g2 g3 htr
      obtain ⟨q1, q44, q45, q46⟩ := FT2_1 f
      have t45 : mm_try (ev_u3 d2 44 0 0 0) 45 = d 45 := by rw [mm_try_n (by decide), u3n (by decide), q45]
      have t46 : mm_try (ev_u3 d2 44 0 0 0) 46 = d 46 := by rw [mm_try_n (by decide), u3n (by decide), q46]
      obtain ⟨d3, e3, mt, b3⟩ := em_leastLoop (n := n) (o := o) hl (d0 := ev_u3 d2 44 0 0 0) (k := k) (x := p) (by omega) hL hH hH1 hH0 g1 (by omega) hS hS4 g3.2 (by omega) (cs_w9 hs) hG (fun j _ => by rw [u3n (by decide), q46]) (H + 1 - L) L (mm_try (ev_u3 d2 44 0 0 0)) (by omega) (Nat.le_refl L) MT_try (by rw [t45]) (fun j _ => by rw [t46])
      refine ⟨ms_ls (fun m => ms_tl (d 45 0) C R B (ms_sS k S m) p (ev_u1 (d 46 0) k (Int32.ofNat m))) (H + 1 - L) L, d2, d3, GF_FT f, GF_t GF_thrown (GF_M mt.1 (fun j hj => by rw [b3 j hj, u3n (by decide), q46])), by rw [mt.1 44 (by decide) (by decide), u3s], ?_, ?_⟩
      · refine EV_bk (k := 400) ?_
        rw [bk_100_0, if_neg x0, if_pos x7, ec_reqTicks hn, if_pos z]
        simp only [ev_bv, ni_in (n := k) (N := 7) (by omega) (by omega), ni_c (n := k) (by omega), cond_true, hL]
        exact e2
      · refine EV_bk (k := 400) ?_
        rw [bk_206_0, em_noSetting, if_pos zx]
        simp only [ev_bi, ↓reduceIte]
        rw [em_noTicks u3s, if_pos z]
        simp only [↓reduceIte]
        rw [em_try hl]
        simp only [ev_bv]
        rw [em_lowOf (by omega), hL]
        exact e3
    · refine OPH_no (E := 0) (v := 0) h (GF_thrown (v := 1)) (by decide) (by decide) u3s (fun n o hn => ?_) (fun n o => ?_)
      · refine EV_bk (k := 400) ?_
        rw [bk_100_0, if_neg x0, if_pos x7, ec_reqTicks hn, if_neg z]
        rfl
      · refine EV_bk (k := 400) ?_
        rw [bk_206_0, em_noSetting, if_pos zx]
        simp only [ev_bi, ↓reduceIte]
        rw [em_noTicks u3s, if_neg z, u3u]
        simp (decide := true) only [↓reduceIte]
  · refine OPH_no (E := 0) (v := 0) h (GF_thrown (v := 1)) (by decide) (by decide) u3s (fun n o hn => ?_) (fun n o => ?_)
    · refine EV_bk (k := 400) ?_
      rw [bk_100_0, Nat.ble_eq.mpr hn, cond_true]
      by_cases y0 : x < 0
      · rw [if_pos y0]
      · have y2 : ¬ x < 7 := fun v => zx ⟨Int32.not_lt.mp y0, by
          rw [i32_lt, show (7 : Int32).toInt = 7 from by decide] at v
          rw [i32_le, show (6 : Int32).toInt = 6 from by decide]
          omega⟩
        rw [if_neg y0, if_neg y2]
    · refine EV_bk (k := 400) ?_
      rw [bk_206_0, em_noSetting, if_neg zx]
      simp (decide := true) only [ev_bi, ↓reduceIte]
end EC29
