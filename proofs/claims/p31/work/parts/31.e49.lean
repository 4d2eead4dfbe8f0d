/-! THE PROGRAM AGAINST THE REFERENCE, 35: the weakest row, the mean wait -/
def ms_up (t w : Nat → Int32) (b : Nat) (s : Int32 × Int32) (r : Nat) : Int32 × Int32 :=
  if r = 0 then s else if ms_rem t w b (ms_weak t w b r) < s.2 then (100 * Int32.ofNat b + Int32.ofNat (ms_weak t w b r), ms_rem t w b (ms_weak t w b r)) else s
def ms_wb (t w : Nat → Int32) (R : Nat) (l0 : Int32) : Nat → Int32 × Int32
  | 0 => (0, l0)
  | b + 1 => ms_up t w b (ms_wb t w R l0 b) R
theorem ms_up_S {t w : Nat → Int32} {b r : Nat} {s : Int32 × Int32} : (if ms_rem t w b r < (ms_up t w b s r).2 then (100 * Int32.ofNat b + Int32.ofNat r, ms_rem t w b r) else ms_up t w b s r) = ms_up t w b s (r + 1) := by
  have hst : ms_weak t w b (r + 1) = if ms_rem t w b r < ms_rem t w b (ms_weak t w b r) then r else ms_weak t w b r := rfl
  have e1 : ms_up t w b s (r + 1) = if ms_rem t w b (ms_weak t w b (r + 1)) < s.2 then (100 * Int32.ofNat b + Int32.ofNat (ms_weak t w b (r + 1)), ms_rem t w b (ms_weak t w b (r + 1))) else s := if_neg (by omega)
  rw [e1]
  by_cases z : r = 0
  · subst z
    have e0 : ms_up t w b s 0 = s := if_pos rfl
    have ew : ms_weak t w b (0 + 1) = 0 := by
      rw [hst]
      split <;> rfl
    rw [e0, ew]
  · have e0 : ms_up t w b s r = if ms_rem t w b (ms_weak t w b r) < s.2 then (100 * Int32.ofNat b + Int32.ofNat (ms_weak t w b r), ms_rem t w b (ms_weak t w b r)) else s := if_neg z
    rw [e0]
    by_cases a : ms_rem t w b (ms_weak t w b r) < s.2
    · rw [if_pos a]
      by_cases c : ms_rem t w b r < ms_rem t w b (ms_weak t w b r)
      · rw [if_pos c] at hst
        rw [hst, if_pos c, if_pos (Int32.lt_trans c a)]
      · rw [if_neg c] at hst
        rw [hst, if_neg c, if_pos a]
    · rw [if_neg a]
      by_cases c : ms_rem t w b r < ms_rem t w b (ms_weak t w b r)
      · rw [if_pos c] at hst
        rw [hst]
      · rw [if_neg c] at hst
        rw [hst, if_neg a, if_neg (fun v => a (Int32.lt_of_le_of_lt (Int32.not_lt.mp c) v))]
theorem ms_wb_eq {t w : Nat → Int32} {R : Nat} {l l' : Int32} (h1 : 1 ≤ R) (h : ms_rem t w 0 (ms_weak t w 0 R) < l) (h' : ms_rem t w 0 (ms_weak t w 0 R) < l') : ∀ B, ms_wb t w R l (B + 1) = ms_wb t w R l' (B + 1)
  | 0 => by
    show ms_up t w 0 (0, l) R = ms_up t w 0 (0, l') R
    have a : ¬ R = 0 := by omega
    simp only [ms_up, a, h, h', ↓reduceIte]
  | B + 1 => by
    show ms_up t w (B + 1) (ms_wb t w R l (B + 1)) R = ms_up t w (B + 1) (ms_wb t w R l' (B + 1)) R
    rw [ms_wb_eq h1 h h' B]
def OPD (a b : ev_F) (lk : Nat → Nat → Nat → Bool) (d : Nat → Nat → Nat → Int32) : Prop :=
  ∃ v d2, SC d d2 ∧ GI d2 ∧ (∀ n o, EV a (n, lk, d, o) = some (.inl (some (ev_D v)), (n, lk, d, o))) ∧ ∀ n o, EV b (n, lk, d, o) = some (.inl (some (ev_D v)), (n, lk, d2, o))
section EC24
variable {n : Nat} {lk : Nat → Nat → Nat → Bool} {d : Nat → Nat → Nat → Int32} {o : ev_W}
theorem op_weakest (hl : LK lk) (h : GI d) : OPN (96, 0, [ev_R 27 0], [], 0, 0) (201, 0, [ev_R 44 0], [], 0, 0) lk d := by
  obtain ⟨B, R, T, g1, g2, -, ⟨C, τ, hτ, ⟨K, hs⟩, hI⟩, -⟩ := id h
  obtain ⟨⟨t0, t1, b1, b4, r1, r16⟩, -⟩ := id g1
  have hB := g2.1.trans t0
  have hR := g2.2.1.trans t1
  have hwk : ms_weak (d 45 0) (d 46 0) 0 R < 16 := by
    rcases ms_weak_le (d 45 0) (d 46 0) 0 R with z | z <;> omega
  have hrm := ms_rem_rg (b := 0) (r := ms_weak (d 45 0) (d 46 0) 0 R) g1 (hI.2.2.2.2.2.1 (16 * 0 + ms_weak (d 45 0) (d 46 0) 0 R) (by omega)) (by omega)
  have eq : ms_wb (d 45 0) (d 46 0) R 1000000000 B = ms_wb (d 45 0) (d 46 0) R 1000000 B := by
    have e := ms_wb_eq (t := d 45 0) (w := d 46 0) (l := 1000000000) (l' := 1000000) r1 (by
      rw [i32_lt, show (1000000000 : Int32).toInt = 1000000000 from by decide]
      have := hrm.2
      omega) (by
      rw [i32_lt, show (1000000 : Int32).toInt = 1000000 from by decide]
      have := hrm.2
      omega) (B - 1)
    rwa [show B - 1 + 1 = B by omega] at e
  refine OPN_ok (v := (ms_wb (d 45 0) (d 46 0) R 1000000000 B).1) h (GF_r d) (GF_thrown (v := 0)) (fun n o _ => ?_) (fun n o => ?_)
  · have banks : ∀ j b, b + j = B → EV (96, 7, [ev_R 27 0, ev_I (ms_wb (d 45 0) (d 46 0) R 1000000000 b).1, ev_I (ms_wb (d 45 0) (d 46 0) R 1000000000 b).2, ev_I (Int32.ofNat b)], [], 0, 0) (n, lk, d, o) = some (.inl (some (ev_I (ms_wb (d 45 0) (d 46 0) R 1000000000 B).1)), (n, lk, d, o)) := by
      intro j
      induction j with
      | zero =>
        intro b hb
        refine EV_bk (k := 400) ?_
        rw [bk_96_7, hl 27 0 3 rfl (by decide) (by decide), cond_true, hB, if_neg (fun z => by have := (ni_lt (by omega) (by omega)).mp z; omega), show b = B by omega]
      | succ j ih =>
        intro b hb
        have hlt : Int32.ofNat b < Int32.ofNat B := (ni_lt (by omega) (by omega)).mpr (by omega)
        have e := ih (b + 1) (by omega)
        have e' : ms_wb (d 45 0) (d 46 0) R 1000000000 (b + 1) = ms_up (d 45 0) (d 46 0) b (ms_wb (d 45 0) (d 46 0) R 1000000000 b) R := rfl
        rw [e'] at e
        generalize ms_wb (d 45 0) (d 46 0) R 1000000000 b = s at e
        have rows : ∀ j r, r + j = R → EV (96, 21, [ev_R 27 0, ev_I (ms_up (d 45 0) (d 46 0) b s r).1, ev_I (ms_up (d 45 0) (d 46 0) b s r).2, ev_I (Int32.ofNat b), ev_I (Int32.ofNat r)], [], 0, 0) (n, lk, d, o) = some (.inl (some (ev_I (ms_wb (d 45 0) (d 46 0) R 1000000000 B).1)), (n, lk, d, o)) := by
          intro j
          induction j with
          | zero =>
            intro r hr
            have er : r = R := by omega
            subst er
            refine EV_bk (k := 400) ?_
            rw [bk_96_21, hl 27 0 3 rfl (by decide) (by decide), cond_true, hR, if_neg (fun z => by have := (ni_lt (by omega) (by omega)).mp z; omega), ni_1]
            exact e
          | succ j ih2 =>
            intro r hr
            have hlt2 : Int32.ofNat r < Int32.ofNat R := (ni_lt (by omega) (by omega)).mpr (by omega)
            have e2 := ih2 (r + 1) (by omega)
            rw [← ms_up_S] at e2
            refine EV_bk (k := 400) ?_
            rw [bk_96_21, hl 27 0 3 rfl (by decide) (by decide), cond_true, hR, if_pos hlt2, hl 27 0 4 rfl (by decide) (by decide), cond_true, cond_true, ec_boundOf (d := d) hl (i := 1) (l := 1) (by decide) (by decide) (b := b) (r := r) (by omega) (by omega), mc_ms_bound g2 hs (by omega) (by omega)]
            simp only [ev_bi, hl 27 0 4 rfl (by decide) (by decide), show lk 0 1 7 = true from hl 0 1 7 rfl (by decide) (by decide), show lk 11 1 0 = true from hl 11 1 0 rfl (by decide) (by decide), cond_true]
            rw [ec_cellOf]
            simp only [ni_in (n := 16 * b + r) (N := 64) (by omega) (by omega), ni_c (n := 16 * b + r) (by omega), cond_true, cs_12 hs (c := 16 * b + r) (by omega), ni_1]
            have er : ms_bound (d 45 0) (d 46 0) b r - d 46 0 (55 + 5 * (16 * b + r) + 0) = ms_rem (d 45 0) (d 46 0) b r := rfl
            rw [er]
            by_cases c : ms_rem (d 45 0) (d 46 0) b r < (ms_up (d 45 0) (d 46 0) b s r).2
            · rw [if_pos c] at e2
              rw [if_pos c]
              exact e2
            · rw [if_neg c] at e2
              rw [if_neg c]
              exact e2
        refine EV_bk (k := 400) ?_
        rw [bk_96_7, hl 27 0 3 rfl (by decide) (by decide), cond_true, hB, if_pos hlt]
        exact rows R 0 (by omega)
    refine EV_bk (k := 400) ?_
    rw [bk_96_0]
    exact banks B 0 (by omega)
  · rw [eq]
    have t45 : ev_u3 d 44 0 0 0 45 = d 45 := u3n (by decide)
    have t46 : ev_u3 d 44 0 0 0 46 = d 46 := u3n (by decide)
    have banks : ∀ j b, b + j = B → EV (201, 13, [ev_R 44 0, ev_I (ms_wb (d 45 0) (d 46 0) R 1000000 b).1, ev_I (ms_wb (d 45 0) (d 46 0) R 1000000 b).2, ev_I (Int32.ofNat b)], [], 0, 0) (n, lk, ev_u3 d 44 0 0 0, o) = some (.inl (some (ev_I (ms_wb (d 45 0) (d 46 0) R 1000000 B).1)), (n, lk, ev_u3 d 44 0 0 0, o)) := by
      intro j
      induction j with
      | zero =>
        intro b hb
        refine EV_bk (k := 400) ?_
        rw [bk_201_13, hl 44 0 1 rfl (by decide) (by decide), cond_true, t45, t0, if_neg (fun z => by have := (ni_lt (by omega) (by omega)).mp z; omega), show b = B by omega]
      | succ j ih =>
        intro b hb
        have hlt : Int32.ofNat b < Int32.ofNat B := (ni_lt (by omega) (by omega)).mpr (by omega)
        have hw : ms_weak (d 45 0) (d 46 0) b R < 16 := by
          rcases ms_weak_le (d 45 0) (d 46 0) b R with z | z <;> omega
        have e := ih (b + 1) (by omega)
        have e' : ms_wb (d 45 0) (d 46 0) R 1000000 (b + 1) = if ms_rem (d 45 0) (d 46 0) b (ms_weak (d 45 0) (d 46 0) b R) < (ms_wb (d 45 0) (d 46 0) R 1000000 b).2 then (100 * Int32.ofNat b + Int32.ofNat (ms_weak (d 45 0) (d 46 0) b R), ms_rem (d 45 0) (d 46 0) b (ms_weak (d 45 0) (d 46 0) b R)) else ms_wb (d 45 0) (d 46 0) R 1000000 b := if_neg (by omega)
        rw [e'] at e
        have ew := em_weakestOf (n := n) (o := o) (d := ev_u3 d 44 0 0 0) hl (b := b) (by omega) (R := R) (by rw [t45, t1]) r1 r16
        have er := em_remains (n := n) (o := o) (d := ev_u3 d 44 0 0 0) hl (b := b) (r := ms_weak (d 45 0) (d 46 0) b R) (by omega) hw
        rw [t45, t46] at ew er
        refine EV_bk (k := 400) ?_
        rw [bk_201_13, hl 44 0 1 rfl (by decide) (by decide), cond_true, t45, t0, if_pos hlt, ew]
        simp only [ev_bi]
        rw [er]
        simp only [ni_1]
        by_cases c : ms_rem (d 45 0) (d 46 0) b (ms_weak (d 45 0) (d 46 0) b R) < (ms_wb (d 45 0) (d 46 0) R 1000000 b).2
        · rw [if_pos c] at e
          rw [if_pos c, er]
          exact e
        · rw [if_neg c] at e
          rw [if_neg c]
          exact e
    refine EV_bk (k := 400) ?_
    rw [bk_201_0]
    exact banks B 0 (by omega)
theorem fp_ok {a b : Int32} (hb : b ≠ 0) : FP.ddiv (FP.i2d a) (FP.i2d b) &&& 0x7fffffffffffffff ≤ 0x7ff0000000000000 := by
  have h1 : FP.Core.dIsNaN (FP.Core.i2d a) = false := by
    have hm := FP.Core.i2d_mag a
    cases h : FP.Core.dIsNaN (FP.Core.i2d a) with
    | false => rfl
    | true =>
      have := (FP.Core.isNaN_bits _).mp h
      omega
  have h2 := FP.Core.ddiv_out h1 (FP.Core.i2d_fin b) (fun z => FP.Core.i2d_ne_zero hb ((FP.Core.zero_bits2 _).mp z))
  have h3 : ¬ 9218868437227405312 < (FP.Core.ddiv (FP.Core.i2d a) (FP.Core.i2d b)).toNat % 2 ^ 63 := fun z => by
    rw [(FP.Core.isNaN_bits _).mpr z] at h2
    cases h2
  show FP.Core.ddiv (FP.Core.i2d a) (FP.Core.i2d b) &&& 0x7fffffffffffffff ≤ 0x7ff0000000000000
  rw [UInt64.le_iff_toNat_le, UInt64.toNat_and, show (0x7fffffffffffffff : UInt64).toNat = 2 ^ 63 - 1 from by decide, Nat.and_two_pow_sub_one_eq_mod, show (0x7ff0000000000000 : UInt64).toNat = 9218868437227405312 from by decide]
  omega
theorem op_meanWait (hl : LK lk) (h : GI d) : OPD (103, 0, [ev_R 27 0], [], 0, 0) (209, 0, [ev_R 44 0], [], 0, 0) lk d := by
  obtain ⟨B, R, T, g1, g2, -, ⟨C, τ, hτ, ⟨K, hs⟩, hI⟩, -⟩ := id h
  have h16 := hI.2.2.2.2.2.2.2
  have q5 : d 2 1 5 = d 46 0 16 := cs_2 hs (k := 5) (by decide)
  have z16 : d 46 0 16 ≤ 0 ↔ d 46 0 16 = 0 := by
    rw [i32_le, ← Int32.toInt_inj, show (0 : Int32).toInt = 0 from by decide]
    have := h16.1
    omega
  refine ⟨if d 46 0 16 = 0 then FP.dconst0 else FP.ddiv (FP.i2d (d 46 0 17)) (FP.i2d (d 46 0 16)), ev_u3 d 44 0 0 0, SC_GF GF_thrown, GI_GF h GF_thrown, fun n o => ?_, fun n o => ?_⟩
  · refine EV_bk (k := 400) ?_
    rw [bk_103_0, hl 27 0 4 rfl (by decide) (by decide), cond_true, show lk 0 1 5 = true from hl 0 1 5 rfl (by decide) (by decide), cond_true, q5]
    by_cases z : d 46 0 16 = 0
    · rw [if_pos (z16.mpr z), if_pos z]
    · rw [if_neg (fun v => z (z16.mp v)), if_neg z, cond_true, cs_wt hs, if_pos (fp_ok z)]
  · refine EV_bk (k := 400) ?_
    rw [bk_209_0, hl 44 0 2 rfl (by decide) (by decide), cond_true]
    by_cases z : d 46 0 16 = 0
    · rw [if_pos z, if_pos z]
    · rw [if_neg z, if_neg z, cond_true, if_pos (fp_ok z)]
end EC24
