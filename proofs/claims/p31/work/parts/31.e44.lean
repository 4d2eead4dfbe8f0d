/-! THE PROGRAM AGAINST THE REFERENCE, 30: calls that look, 1 -/
def SC (d d' : Nat → Nat → Nat → Int32) : Prop := d' 103 = d 103 ∧ d' 104 = d 104
theorem SC_r (d : Nat → Nat → Nat → Int32) : SC d d := ⟨rfl, rfl⟩
theorem SC_t {d d' d'' : Nat → Nat → Nat → Int32} (h : SC d d') (h' : SC d' d'') : SC d d'' := ⟨h'.1.trans h.1, h'.2.trans h.2⟩
theorem SC_GF {d d' : Nat → Nat → Nat → Int32} (h : GF d d') : SC d d' := ⟨h.2.2.2.2.2.1, h.2.2.2.2.2.2⟩
/-- a call of the program (a) and the same call of the reference (b); kf: what an exception is for the law -/
def OPH (a b : ev_F) (kf : Nat → Int32) (lk : Nat → Nat → Nat → Bool) (d : Nat → Nat → Nat → Int32) : Prop := ∀ n o, 384 ≤ n →
  (∃ v d1 d2, SC d d1 ∧ SC d d2 ∧ GI d2 ∧ d2 44 0 0 = 0 ∧ EV a (n, lk, d, o) = some (.inl (some (ev_I v)), (n, lk, d1, o)) ∧ EV b (n, lk, d1, o) = some (.inl (some (ev_I v)), (n, lk, d2, o))) ∨
  ∃ E v d2, SC d d2 ∧ GI d2 ∧ d2 44 0 0 = kf E ∧ E < 3 ∧ kf E ≠ 0 ∧ EV a (n, lk, d, o) = some (.inr E, (n + 1000, lk, d, o)) ∧ EV b (n + 1000, lk, d, o) = some (.inl (some (ev_I v)), (n + 1000, lk, d2, o))
def OPN (a b : ev_F) (lk : Nat → Nat → Nat → Bool) (d : Nat → Nat → Nat → Int32) : Prop := ∀ n o, 384 ≤ n →
  ∃ v d1 d2, SC d d1 ∧ SC d d2 ∧ GI d2 ∧ EV a (n, lk, d, o) = some (.inl (some (ev_I v)), (n, lk, d1, o)) ∧ EV b (n, lk, d1, o) = some (.inl (some (ev_I v)), (n, lk, d2, o))
/-- exceptions: 0 IllegalArgument, 1 IndexOutOfBounds, 2 IllegalState -/
def kf_A (E : Nat) : Int32 := if E = 0 then 1 else 0
def kf_B (E : Nat) : Int32 := if E = 1 then 1 else if E = 0 then 2 else 0
def kf_C (E : Nat) : Int32 := if E = 1 then 1 else 0
def kf_D (E : Nat) : Int32 := if E = 0 then 1 else if E = 2 then 2 else 0
def kf_E (E : Nat) : Int32 := if E = 1 then 1 else if E = 2 then 2 else 0
def kf_F (E : Nat) : Int32 := if E = 1 then 1 else if E = 0 then 2 else if E = 2 then 3 else 0
/-- the program refuses, the reference says so -/
theorem OPH_no {a b : ev_F} {kf : Nat → Int32} {lk : Nat → Nat → Nat → Bool} {d d2 : Nat → Nat → Nat → Int32} {E : Nat} {v : Int32} (h : GI d) (hf : GF d d2) (h3 : E < 3) (hk : kf E ≠ 0) (ht : d2 44 0 0 = kf E)
    (h1 : ∀ n o, 384 ≤ n → EV a (n, lk, d, o) = some (.inr E, (n + 1000, lk, d, o))) (h2 : ∀ n o, EV b (n, lk, d, o) = some (.inl (some (ev_I v)), (n, lk, d2, o))) : OPH a b kf lk d :=
  fun n o hn => .inr ⟨E, v, d2, SC_GF hf, GI_GF h hf, ht, h3, hk, h1 n o hn, h2 _ o⟩
theorem OPH_ok {a b : ev_F} {kf : Nat → Int32} {lk : Nat → Nat → Nat → Bool} {d d1 d2 : Nat → Nat → Nat → Int32} {v : Int32} (h : GI d) (hf1 : GF d d1) (hf : GF d1 d2) (ht : d2 44 0 0 = 0)
    (h1 : ∀ n o, 384 ≤ n → EV a (n, lk, d, o) = some (.inl (some (ev_I v)), (n, lk, d1, o))) (h2 : ∀ n o, EV b (n, lk, d1, o) = some (.inl (some (ev_I v)), (n, lk, d2, o))) : OPH a b kf lk d :=
  fun n o hn => .inl ⟨v, d1, d2, SC_GF hf1, SC_GF (GF_t hf1 hf), GI_GF h (GF_t hf1 hf), ht, h1 n o hn, h2 n _⟩
theorem OPN_ok {a b : ev_F} {lk : Nat → Nat → Nat → Bool} {d d1 d2 : Nat → Nat → Nat → Int32} {v : Int32} (h : GI d) (hf1 : GF d d1) (hf : GF d1 d2)
    (h1 : ∀ n o, 384 ≤ n → EV a (n, lk, d, o) = some (.inl (some (ev_I v)), (n, lk, d1, o))) (h2 : ∀ n o, EV b (n, lk, d1, o) = some (.inl (some (ev_I v)), (n, lk, d2, o))) : OPN a b lk d :=
  fun n o hn => ⟨v, d1, d2, SC_GF hf1, SC_GF (GF_t hf1 hf), GI_GF h (GF_t hf1 hf), h1 n o hn, h2 n o⟩
/-- how many of the first k requests are in a state -/
def ms_ct (w : Nat → Int32) (st : Int32) : Nat → Nat
  | 0 => 0
  | k + 1 => if w (375 + 6 * k + 3) = st then ms_ct w st k + 1 else ms_ct w st k
def ms_lost (w : Nat → Int32) : Nat → Int32
  | 0 => 0
  | k + 1 => ms_lost w k + w (55 + 5 * k + 1)
def ms_hots (w : Nat → Int32) : Nat → Nat
  | 0 => 0
  | k + 1 => if ms_hot w k then ms_hots w k + 1 else ms_hots w k
def ms_sum (w : Nat → Int32) : Nat → Int32
  | 0 => 0
  | k + 1 => ms_sum w k + w (19 + 9 * k + 0)
section EC19
variable {n : Nat} {lk : Nat → Nat → Nat → Bool} {d : Nat → Nat → Nat → Int32} {o : ev_W}
theorem ec_countIn (hl : LK lk) {i : Nat} (hi : i < 15) {w : Nat → Int32} {C K : Nat} {st : Int32} (hs : CS d i w C K) : EV (49, 0, [ev_R 17 i, ev_I st], [], 0, 0) (n, lk, d, o) = some (.inl (some (ev_I (Int32.ofNat (ms_ct w st C)))), (n, lk, d, o)) := by
  have h40 := cs_C hs
  have loop : ∀ j k, k + j = C → EV (49, 4, [ev_R 17 i, ev_I st, ev_I (Int32.ofNat (ms_ct w st k)), ev_I (Int32.ofNat k)], [], 0, 0) (n, lk, d, o) = some (.inl (some (ev_I (Int32.ofNat (ms_ct w st C)))), (n, lk, d, o)) := by
    intro j
    induction j with
    | zero =>
      intro k hk
      refine EV_bk (k := 400) ?_
      rw [bk_49_4, cs_ct hs, cs_w9 hs, if_neg (fun z => by have := (ni_lt (by omega) (by omega)).mp z; omega), show k = C by omega]
    | succ j ih =>
      intro k hk
      have e := ih (k + 1) (by omega)
      have hlt : Int32.ofNat k < Int32.ofNat C := (ni_lt (by omega) (by omega)).mpr (by omega)
      have hst : ms_ct w st (k + 1) = if w (375 + 6 * k + 3) = st then ms_ct w st k + 1 else ms_ct w st k := rfl
      refine EV_bk (k := 400) ?_
      rw [bk_49_4, cs_ct hs, cs_w9 hs, if_pos hlt]
      simp only [hl 17 i 5 rfl hi (by decide), cond_true, ni_in (n := k) (N := 40) (by omega) (by omega), ni_c (n := k) (by omega), cs_21 hs (q := k) (by omega), ni_1]
      by_cases z : w (375 + 6 * k + 3) = st
      · rw [if_pos z] at hst
        rw [hst] at e
        rw [if_pos z]
        exact e
      · rw [if_neg z] at hst
        rw [hst] at e
        rw [if_neg z]
        exact e
  refine EV_bk (k := 400) ?_
  rw [bk_49_0]
  exact loop C 0 (by omega)
theorem ec_countOfBank (hl : LK lk) {i : Nat} (hi : i < 15) {w : Nat → Int32} {C K b : Nat} {st : Int32} (hs : CS d i w C K) : EV (50, 0, [ev_R 17 i, ev_I (Int32.ofNat b), ev_I st], [], 0, 0) (n, lk, d, o) = some (.inl (some (ev_I (Int32.ofNat (ms_many w b st C)))), (n, lk, d, o)) := by
  have h40 := cs_C hs
  have loop : ∀ j k, k + j = C → EV (50, 5, [ev_R 17 i, ev_I (Int32.ofNat b), ev_I st, ev_I (Int32.ofNat (ms_many w b st k)), ev_I (Int32.ofNat k)], [], 0, 0) (n, lk, d, o) = some (.inl (some (ev_I (Int32.ofNat (ms_many w b st C)))), (n, lk, d, o)) := by
    intro j
    induction j with
    | zero =>
      intro k hk
      refine EV_bk (k := 400) ?_
      rw [bk_50_5, cs_ct hs, cs_w9 hs, if_neg (fun z => by have := (ni_lt (by omega) (by omega)).mp z; omega), show k = C by omega]
    | succ j ih =>
      intro k hk
      have e := ih (k + 1) (by omega)
      have hlt : Int32.ofNat k < Int32.ofNat C := (ni_lt (by omega) (by omega)).mpr (by omega)
      have hst : ms_many w b st (k + 1) = if w (375 + 6 * k + 3) = st ∧ w (375 + 6 * k + 0) = Int32.ofNat b then ms_many w b st k + 1 else ms_many w b st k := rfl
      refine EV_bk (k := 400) ?_
      rw [bk_50_5, cs_ct hs, cs_w9 hs, if_pos hlt]
      simp only [hl 17 i 2 rfl hi (by decide), hl 17 i 5 rfl hi (by decide), cond_true, ni_in (n := k) (N := 40) (by omega) (by omega), ni_c (n := k) (by omega), cs_18 hs (q := k) (by omega), cs_21 hs (q := k) (by omega), ni_1]
      by_cases y : w (375 + 6 * k + 0) = Int32.ofNat b
      · rw [if_pos y]
        by_cases z : w (375 + 6 * k + 3) = st
        · rw [if_pos ⟨z, y⟩] at hst
          rw [hst] at e
          rw [if_pos z]
          exact e
        · rw [if_neg (fun v => z v.1)] at hst
          rw [hst] at e
          rw [if_neg z]
          exact e
      · rw [if_neg (fun v => y v.2)] at hst
        rw [hst] at e
        rw [if_neg y]
        exact e
  refine EV_bk (k := 400) ?_
  rw [bk_50_0]
  exact loop C 0 (by omega)
theorem em_waitingMany (hl : LK lk) {C : Nat} (hC : d 46 0 9 = Int32.ofNat C) (h40 : C ≤ 40) : EV (186, 0, [ev_R 44 0], [], 0, 0) (n, lk, d, o) = some (.inl (some (ev_I (Int32.ofNat (ms_ct (d 46 0) 1 C)))), (n, lk, d, o)) := by
  have loop : ∀ j k, k + j = C → EV (186, 4, [ev_R 44 0, ev_I (Int32.ofNat (ms_ct (d 46 0) 1 k)), ev_I (Int32.ofNat k)], [], 0, 0) (n, lk, d, o) = some (.inl (some (ev_I (Int32.ofNat (ms_ct (d 46 0) 1 C)))), (n, lk, d, o)) := by
    intro j
    induction j with
    | zero =>
      intro k hk
      refine EV_bk (k := 400) ?_
      rw [bk_186_4, hl 44 0 2 rfl (by decide) (by decide), cond_true, hC, if_neg (fun z => by have := (ni_lt (by omega) (by omega)).mp z; omega), show k = C by omega]
    | succ j ih =>
      intro k hk
      have e := ih (k + 1) (by omega)
      have hlt : Int32.ofNat k < Int32.ofNat C := (ni_lt (by omega) (by omega)).mpr (by omega)
      have hst : ms_ct (d 46 0) 1 (k + 1) = if d 46 0 (375 + 6 * k + 3) = 1 then ms_ct (d 46 0) 1 k + 1 else ms_ct (d 46 0) 1 k := rfl
      refine EV_bk (k := 400) ?_
      rw [bk_186_4, hl 44 0 2 rfl (by decide) (by decide), cond_true, hC, if_pos hlt, em_ofRequest hl (w := 3) (x := 3) rfl (by omega)]
      simp only [ev_bi, ni_1, Int32.add_zero]
      by_cases z : d 46 0 (375 + 6 * k + 3) = 1
      · rw [if_pos z] at hst
        rw [hst] at e
        rw [if_pos z]
        exact e
      · rw [if_neg z] at hst
        rw [hst] at e
        rw [if_neg z]
        exact e
  refine EV_bk (k := 400) ?_
  rw [bk_186_0]
  exact loop C 0 (by omega)
theorem em_waitingOf (hl : LK lk) {C b : Nat} (hC : d 46 0 9 = Int32.ofNat C) (h40 : C ≤ 40) : EV (187, 0, [ev_R 44 0, ev_I (Int32.ofNat b)], [], 0, 0) (n, lk, d, o) = some (.inl (some (ev_I (Int32.ofNat (ms_many (d 46 0) b 1 C)))), (n, lk, d, o)) := by
  have loop : ∀ j k, k + j = C → EV (187, 4, [ev_R 44 0, ev_I (Int32.ofNat b), ev_I (Int32.ofNat (ms_many (d 46 0) b 1 k)), ev_I (Int32.ofNat k)], [], 0, 0) (n, lk, d, o) = some (.inl (some (ev_I (Int32.ofNat (ms_many (d 46 0) b 1 C)))), (n, lk, d, o)) := by
    intro j
    induction j with
    | zero =>
      intro k hk
      refine EV_bk (k := 400) ?_
      rw [bk_187_4, hl 44 0 2 rfl (by decide) (by decide), cond_true, hC, if_neg (fun z => by have := (ni_lt (by omega) (by omega)).mp z; omega), show k = C by omega]
    | succ j ih =>
      intro k hk
      have e := ih (k + 1) (by omega)
      have hlt : Int32.ofNat k < Int32.ofNat C := (ni_lt (by omega) (by omega)).mpr (by omega)
      have hst : ms_many (d 46 0) b 1 (k + 1) = if d 46 0 (375 + 6 * k + 3) = 1 ∧ d 46 0 (375 + 6 * k + 0) = Int32.ofNat b then ms_many (d 46 0) b 1 k + 1 else ms_many (d 46 0) b 1 k := rfl
      refine EV_bk (k := 400) ?_
      rw [bk_187_4, hl 44 0 2 rfl (by decide) (by decide), cond_true, hC, if_pos hlt, em_ofRequest hl (w := 3) (x := 3) rfl (by omega)]
      simp only [ev_bi]
      rw [em_ofRequest hl (w := 0) (x := 0) rfl (by omega)]
      simp only [ni_1, Int32.add_zero]
      by_cases z : d 46 0 (375 + 6 * k + 3) = 1
      · rw [if_pos z]
        by_cases y : d 46 0 (375 + 6 * k + 0) = Int32.ofNat b
        · rw [if_pos ⟨z, y⟩] at hst
          rw [hst] at e
          rw [if_pos y]
          exact e
        · rw [if_neg (fun v => y v.2)] at hst
          rw [hst] at e
          rw [if_neg y]
          exact e
      · rw [if_neg (fun v => z v.1)] at hst
        rw [hst] at e
        rw [if_neg z]
        exact e
  refine EV_bk (k := 400) ?_
  rw [bk_187_0]
  exact loop C 0 (by omega)
theorem ec_lostMany (hl : LK lk) {w : Nat → Int32} {C K : Nat} (hs : CS d 1 w C K) : EV (120, 0, [ev_R 27 0], [], 0, 0) (n, lk, d, o) = some (.inl (some (ev_I (ms_lost w 64))), (n, lk, d, o)) := by
  have loop : ∀ j k, k + j = 64 → EV (120, 4, [ev_R 27 0, ev_I (ms_lost w k), ev_I (Int32.ofNat k)], [], 0, 0) (n, lk, d, o) = some (.inl (some (ev_I (ms_lost w 64))), (n, lk, d, o)) := by
    intro j
    induction j with
    | zero =>
      intro k hk
      refine EV_bk (k := 400) ?_
      rw [bk_120_4, if_neg (fun z => by have := (ni_lt (b := 64) (by omega) (by omega)).mp z; omega), show k = 64 by omega]
    | succ j ih =>
      intro k hk
      have e := ih (k + 1) (by omega)
      have hlt : Int32.ofNat k < 64 := (ni_lt (b := 64) (by omega) (by omega)).mpr (by omega)
      refine EV_bk (k := 400) ?_
      rw [bk_120_4, if_pos hlt]
      simp only [hl 27 0 4 rfl (by decide) (by decide), show lk 0 1 7 = true from hl 0 1 7 rfl (by decide) (by decide), show lk 11 1 1 = true from hl 11 1 1 rfl (by decide) (by decide), cond_true, ni_in (n := k) (N := 64) (by omega) (by omega), ni_c (n := k) (by omega), cs_13 hs (c := k) (by omega), ni_1]
      exact e
  refine EV_bk (k := 400) ?_
  rw [bk_120_0]
  exact loop 64 0 (by omega)
theorem em_lostMany (hl : LK lk) : EV (188, 0, [ev_R 44 0], [], 0, 0) (n, lk, d, o) = some (.inl (some (ev_I (ms_lost (d 46 0) 64))), (n, lk, d, o)) := by
  have loop : ∀ j k, k + j = 64 → EV (188, 4, [ev_R 44 0, ev_I (ms_lost (d 46 0) k), ev_I (Int32.ofNat k)], [], 0, 0) (n, lk, d, o) = some (.inl (some (ev_I (ms_lost (d 46 0) 64))), (n, lk, d, o)) := by
    intro j
    induction j with
    | zero =>
      intro k hk
      refine EV_bk (k := 400) ?_
      rw [bk_188_4, if_neg (fun z => by have := (ni_lt (b := 64) (by omega) (by omega)).mp z; omega), show k = 64 by omega]
    | succ j ih =>
      intro k hk
      have e := ih (k + 1) (by omega)
      have hlt : Int32.ofNat k < 64 := (ni_lt (b := 64) (by omega) (by omega)).mpr (by omega)
      have ex : ((55 : Int32) + ((5 : Int32) * Int32.ofNat k)) + 1 = Int32.ofNat (55 + 5 * k + 1) := by
        rw [Int32.ofNat_add, Int32.ofNat_add, Int32.ofNat_mul]; rfl
      refine EV_bk (k := 400) ?_
      rw [bk_188_4, if_pos hlt, ex]
      simp only [hl 44 0 2 rfl (by decide) (by decide), cond_true, ni_in (n := 55 + 5 * k + 1) (N := 615) (by omega) (by omega), ni_c (n := 55 + 5 * k + 1) (by omega), ni_1]
      exact e
  refine EV_bk (k := 400) ?_
  rw [bk_188_0]
  exact loop 64 0 (by omega)
theorem ec_hotMany (hl : LK lk) {w : Nat → Int32} {C K B : Nat} (hs : CS d 1 w C K) (hB : d 24 1 0 = Int32.ofNat B) (h4 : B ≤ 4) : EV (121, 0, [ev_R 27 0], [], 0, 0) (n, lk, d, o) = some (.inl (some (ev_I (Int32.ofNat (ms_hots w B)))), (n, lk, d, o)) := by
  have loop : ∀ j k, k + j = B → EV (121, 4, [ev_R 27 0, ev_I (Int32.ofNat (ms_hots w k)), ev_I (Int32.ofNat k)], [], 0, 0) (n, lk, d, o) = some (.inl (some (ev_I (Int32.ofNat (ms_hots w B)))), (n, lk, d, o)) := by
    intro j
    induction j with
    | zero =>
      intro k hk
      refine EV_bk (k := 400) ?_
      rw [bk_121_4, hl 27 0 3 rfl (by decide) (by decide), cond_true, hB, if_neg (fun z => by have := (ni_lt (by omega) (by omega)).mp z; omega), show k = B by omega]
    | succ j ih =>
      intro k hk
      have e := ih (k + 1) (by omega)
      have hlt : Int32.ofNat k < Int32.ofNat B := (ni_lt (by omega) (by omega)).mpr (by omega)
      have hh := ec_hot_ms hs (b := k) (by omega)
      have hst : ms_hots w (k + 1) = if ms_hot w k then ms_hots w k + 1 else ms_hots w k := rfl
      refine EV_bk (k := 400) ?_
      rw [bk_121_4, hl 27 0 3 rfl (by decide) (by decide), cond_true, hB, if_pos hlt, hl 27 0 4 rfl (by decide) (by decide), cond_true, ec_isHot hl (i := 1) (by decide) (by omega)]
      simp only [ev_bi, ni_1]
      by_cases z : ms_hot w k
      · rw [if_pos z] at hst
        rw [hst] at e
        rw [if_pos (hh.mpr z), if_neg (by decide)]
        exact e
      · rw [if_neg z] at hst
        rw [hst] at e
        rw [if_neg (fun v => z (hh.mp v)), if_pos rfl]
        exact e
  refine EV_bk (k := 400) ?_
  rw [bk_121_0]
  exact loop B 0 (by omega)
theorem em_hotMany (hl : LK lk) {B : Nat} (hB : d 45 0 0 = Int32.ofNat B) (h4 : B ≤ 4) : EV (189, 0, [ev_R 44 0], [], 0, 0) (n, lk, d, o) = some (.inl (some (ev_I (Int32.ofNat (ms_hots (d 46 0) B)))), (n, lk, d, o)) := by
  have loop : ∀ j k, k + j = B → EV (189, 4, [ev_R 44 0, ev_I (Int32.ofNat (ms_hots (d 46 0) k)), ev_I (Int32.ofNat k)], [], 0, 0) (n, lk, d, o) = some (.inl (some (ev_I (Int32.ofNat (ms_hots (d 46 0) B)))), (n, lk, d, o)) := by
    intro j
    induction j with
    | zero =>
      intro k hk
      refine EV_bk (k := 400) ?_
      rw [bk_189_4, hl 44 0 1 rfl (by decide) (by decide), cond_true, hB, if_neg (fun z => by have := (ni_lt (by omega) (by omega)).mp z; omega), show k = B by omega]
    | succ j ih =>
      intro k hk
      have e := ih (k + 1) (by omega)
      have hlt : Int32.ofNat k < Int32.ofNat B := (ni_lt (by omega) (by omega)).mpr (by omega)
      have hst : ms_hots (d 46 0) (k + 1) = if ms_hot (d 46 0) k then ms_hots (d 46 0) k + 1 else ms_hots (d 46 0) k := rfl
      refine EV_bk (k := 400) ?_
      rw [bk_189_4, hl 44 0 1 rfl (by decide) (by decide), cond_true, hB, if_pos hlt, em_isHot hl (by omega)]
      simp only [ev_bi, ni_1, Int32.add_zero]
      by_cases z : ms_hot (d 46 0) k
      · rw [if_pos z] at hst
        rw [hst] at e
        rw [if_pos z, if_neg (by decide)]
        exact e
      · rw [if_neg z] at hst
        rw [hst] at e
        rw [if_neg z, if_pos rfl]
        exact e
  refine EV_bk (k := 400) ?_
  rw [bk_189_0]
  exact loop B 0 (by omega)
end EC19
