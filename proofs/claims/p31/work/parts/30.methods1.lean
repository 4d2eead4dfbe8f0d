/-! WHAT THE METHODS DO, 1: numbers -/
abbrev LK (lk : Nat → Nat → Nat → Bool) : Prop := ∀ r i k, ev_ir r k = true → i < ev_cn r → k < sd_n r → lk r i k = true
theorem ni_t {n : Nat} (h : n < 2147483648) : (Int32.ofNat n).toInt = (n : Int) := nI_toInt (by omega)
theorem ni_c {n : Nat} (h : n < 2147483648) : (Int32.ofNat n).toNatClampNeg = n := Int32.toNatClampNeg_ofNat_of_lt (by simpa using h)
theorem ni_in {n N : Nat} (h : n < N) (hN : N < 2147483648) : ev_in (Int32.ofNat n) N = true := by
  unfold ev_in
  have h0 : ¬ (Int32.ofNat n < 0) := by
    rw [Int32.lt_iff_toInt_lt, ni_t (by omega)]
    show ¬ ((n : Int) < 0)
    omega
  rw [ni_c (by omega)]
  simp only [h0, decide_false, Bool.not_false, Bool.true_and]
  exact Nat.ble_eq.mpr h
theorem ni_lt {a b : Nat} (ha : a < 2147483648) (hb : b < 2147483648) : (Int32.ofNat a < Int32.ofNat b) ↔ a < b := by
  rw [Int32.lt_iff_toInt_lt, ni_t (by omega), ni_t (by omega)]
  omega
theorem ni_le {a b : Nat} (ha : a < 2147483648) (hb : b < 2147483648) : (Int32.ofNat a ≤ Int32.ofNat b) ↔ a ≤ b := by
  rw [Int32.le_iff_toInt_le, ni_t (by omega), ni_t (by omega)]
  omega
theorem ni_eq {a b : Nat} (ha : a < 2147483648) (hb : b < 2147483648) : (Int32.ofNat a = Int32.ofNat b) ↔ a = b := by
  rw [← Int32.toInt_inj, ni_t (by omega), ni_t (by omega)]
  omega
theorem em_129 (x a b : Int32) (μ : ev_M) : EV (129, 0, [ev_I x, ev_I a, ev_I b], [], 0, 0) μ = some (.inl (some (ev_I (if a ≤ x ∧ x ≤ b then 1 else 0))), μ) := by
  obtain ⟨n, lk, d, o⟩ := μ
  refine EV_bk (k := 400) ?_
  rw [bk_129_0]
  by_cases h1 : x < a
  · have : ¬ a ≤ x := Int32.not_le.mpr h1
    simp [h1, this]
  · have : a ≤ x := Int32.not_lt.mp h1
    by_cases h2 : x ≤ b <;> simp [h1, h2, this]
theorem em_154 {n : Nat} {lk : Nat → Nat → Nat → Bool} {d : Nat → Nat → Nat → Int32} {o : ev_W} (hl : LK lk) {b w : Nat} (h : 19 + 9 * b + w < 615) : EV (154, 0, [ev_R 44 0, ev_I (Int32.ofNat b), ev_I (Int32.ofNat w)], [], 0, 0) (n, lk, d, o) = some (.inl (some (ev_I (d 46 0 (19 + 9 * b + w)))), (n, lk, d, o)) := by
  refine EV_bk (k := 400) ?_
  rw [bk_154_0]
  have e : ((19 : Int32) + (9 : Int32) * Int32.ofNat b) + Int32.ofNat w = Int32.ofNat (19 + 9 * b + w) := by
    rw [Int32.ofNat_add, Int32.ofNat_add, Int32.ofNat_mul]; rfl
  rw [e, ni_in h (by omega), ni_c (by omega)]
  simp (decide := true) [hl]
theorem em_165 {n : Nat} {lk : Nat → Nat → Nat → Bool} {d : Nat → Nat → Nat → Int32} {o : ev_W} (hl : LK lk) {b : Nat} (h : b < 4) : EV (165, 0, [ev_R 44 0, ev_I (Int32.ofNat b)], [], 0, 0) (n, lk, d, o) = some (.inl (some (ev_I (if d 46 0 3 ≤ d 46 0 (20 + 9 * b) then 1 else 0))), (n, lk, d, o)) := by
  refine EV_bk (k := 400) ?_
  rw [bk_165_0]
  have := em_154 (n := n) (o := o) (d := d) hl (b := b) (w := 1) (by omega)
  rw [show (1 : Int32) = Int32.ofNat 1 from rfl, this, show 19 + 9 * b + 1 = 20 + 9 * b by omega]
  by_cases h1 : d 46 0 (20 + 9 * b) < d 46 0 3
  · have h2 := Int32.not_le.mpr h1
    simp (decide := true) [hl, ev_bi, h1, h2]
  · have h2 := Int32.not_lt.mp h1
    simp (decide := true) [hl, ev_bi, h1, h2]
/-! WHAT THE METHODS DO, 2: the reference's small ones -/
theorem ni_B (b w : Nat) : ((19 : Int32) + (9 : Int32) * Int32.ofNat b) + Int32.ofNat w = Int32.ofNat (19 + 9 * b + w) := by rw [Int32.ofNat_add, Int32.ofNat_add, Int32.ofNat_mul]; rfl
theorem ni_R (b r w : Nat) : ((55 : Int32) + (5 : Int32) * ((16 : Int32) * Int32.ofNat b + Int32.ofNat r)) + Int32.ofNat w = Int32.ofNat (55 + 5 * (16 * b + r) + w) := by rw [Int32.ofNat_add, Int32.ofNat_add, Int32.ofNat_mul, Int32.ofNat_add, Int32.ofNat_mul]; rfl
theorem ni_Q (q w : Nat) : ((375 : Int32) + (6 : Int32) * Int32.ofNat q) + Int32.ofNat w = Int32.ofNat (375 + 6 * q + w) := by rw [Int32.ofNat_add, Int32.ofNat_add, Int32.ofNat_mul]; rfl
theorem ni_K (b r : Nat) : (4 : Int32) + (2 : Int32) * ((16 : Int32) * Int32.ofNat b + Int32.ofNat r) = Int32.ofNat (4 + 2 * (16 * b + r)) := by rw [Int32.ofNat_add, Int32.ofNat_mul, Int32.ofNat_add, Int32.ofNat_mul]; rfl
theorem ni_1 (a : Nat) : Int32.ofNat a + (1 : Int32) = Int32.ofNat (a + 1) := by rw [Int32.ofNat_add]; rfl
section EM2
variable {n : Nat} {lk : Nat → Nat → Nat → Bool} {d : Nat → Nat → Nat → Int32} {o : ev_W} {b r q w : Nat} {x v : Int32}
theorem em_of (hl : LK lk) (hx : x = Int32.ofNat w) (h : 19 + 9 * b + w < 615) : EV (154, 0, [ev_R 44 0, ev_I (Int32.ofNat b), ev_I x], [], 0, 0) (n, lk, d, o) = some (.inl (some (ev_I (d 46 0 (19 + 9 * b + w)))), (n, lk, d, o)) := by
  subst hx
  exact em_154 hl h
theorem em_sets (hl : LK lk) (hx : x = Int32.ofNat w) (h : 19 + 9 * b + w < 615) : EV (155, 0, [ev_R 44 0, ev_I (Int32.ofNat b), ev_I x, ev_I v], [], 0, 0) (n, lk, d, o) = some (.inl none, (n, lk, ev_u3 d 46 0 (19 + 9 * b + w) v, o)) := by
  subst hx
  refine EV_bk (k := 400) ?_
  rw [bk_155_0, ni_B, ni_in h (by omega), ni_c (by omega)]
  simp (decide := true) [hl]
theorem em_adds (hl : LK lk) (hx : x = Int32.ofNat w) (h : 19 + 9 * b + w < 615) : EV (156, 0, [ev_R 44 0, ev_I (Int32.ofNat b), ev_I x, ev_I v], [], 0, 0) (n, lk, d, o) = some (.inl none, (n, lk, ev_u3 d 46 0 (19 + 9 * b + w) (d 46 0 (19 + 9 * b + w) + v), o)) := by
  subst hx
  refine EV_bk (k := 400) ?_
  rw [bk_156_0, ni_B, ni_in h (by omega), ni_c (by omega)]
  simp (decide := true) [hl]
theorem em_ofRow (hl : LK lk) (hx : x = Int32.ofNat w) (h : 55 + 5 * (16 * b + r) + w < 615) : EV (157, 0, [ev_R 44 0, ev_I (Int32.ofNat b), ev_I (Int32.ofNat r), ev_I x], [], 0, 0) (n, lk, d, o) = some (.inl (some (ev_I (d 46 0 (55 + 5 * (16 * b + r) + w)))), (n, lk, d, o)) := by
  subst hx
  refine EV_bk (k := 400) ?_
  rw [bk_157_0, ni_R, ni_in h (by omega), ni_c (by omega)]
  simp (decide := true) [hl]
theorem em_setsRow (hl : LK lk) (hx : x = Int32.ofNat w) (h : 55 + 5 * (16 * b + r) + w < 615) : EV (158, 0, [ev_R 44 0, ev_I (Int32.ofNat b), ev_I (Int32.ofNat r), ev_I x, ev_I v], [], 0, 0) (n, lk, d, o) = some (.inl none, (n, lk, ev_u3 d 46 0 (55 + 5 * (16 * b + r) + w) v, o)) := by
  subst hx
  refine EV_bk (k := 400) ?_
  rw [bk_158_0, ni_R, ni_in h (by omega), ni_c (by omega)]
  simp (decide := true) [hl]
theorem em_addsRow (hl : LK lk) (hx : x = Int32.ofNat w) (h : 55 + 5 * (16 * b + r) + w < 615) : EV (159, 0, [ev_R 44 0, ev_I (Int32.ofNat b), ev_I (Int32.ofNat r), ev_I x], [], 0, 0) (n, lk, d, o) = some (.inl none, (n, lk, ev_u3 d 46 0 (55 + 5 * (16 * b + r) + w) (d 46 0 (55 + 5 * (16 * b + r) + w) + 1), o)) := by
  subst hx
  refine EV_bk (k := 400) ?_
  rw [bk_159_0, ni_R, ni_in h (by omega), ni_c (by omega)]
  simp (decide := true) [hl]
theorem em_ofRequest (hl : LK lk) (hx : x = Int32.ofNat w) (h : 375 + 6 * q + w < 615) : EV (160, 0, [ev_R 44 0, ev_I (Int32.ofNat q), ev_I x], [], 0, 0) (n, lk, d, o) = some (.inl (some (ev_I (d 46 0 (375 + 6 * q + w)))), (n, lk, d, o)) := by
  subst hx
  refine EV_bk (k := 400) ?_
  rw [bk_160_0, ni_Q, ni_in h (by omega), ni_c (by omega)]
  simp (decide := true) [hl]
theorem em_setsRequest (hl : LK lk) (hx : x = Int32.ofNat w) (h : 375 + 6 * q + w < 615) : EV (161, 0, [ev_R 44 0, ev_I (Int32.ofNat q), ev_I x, ev_I v], [], 0, 0) (n, lk, d, o) = some (.inl none, (n, lk, ev_u3 d 46 0 (375 + 6 * q + w) v, o)) := by
  subst hx
  refine EV_bk (k := 400) ?_
  rw [bk_161_0, ni_Q, ni_in h (by omega), ni_c (by omega)]
  simp (decide := true) [hl]
/-- a row's bound -/
def ms_cool (t : Nat → Int32) (w : Nat → Int32) (c : Nat) : Int32 := if 0 < t (4 + 2 * c) ∧ t (4 + 2 * c + 1) ≤ w 8 ∧ t (4 + 2 * c) < t 2 then t (4 + 2 * c) else t 2
def ms_half (x : Int32) : Int32 := if x / 2 < 1 then 1 else x / 2
abbrev ms_hot (w : Nat → Int32) (b : Nat) : Prop := w 3 ≤ w (20 + 9 * b)
def ms_bound (t w : Nat → Int32) (b r : Nat) : Int32 := if ms_hot w b then ms_half (ms_cool t w (16 * b + r)) else ms_cool t w (16 * b + r)
def ms_rem (t w : Nat → Int32) (b r : Nat) : Int32 := ms_bound t w b r - w (55 + 5 * (16 * b + r))
theorem em_boundOf (hl : LK lk) (hb : b < 4) (hr : r < 16) : EV (166, 0, [ev_R 44 0, ev_I (Int32.ofNat b), ev_I (Int32.ofNat r), ev_I x], [], 0, 0) (n, lk, d, o) = some (.inl (some (ev_I (if x = 0 then ms_cool (d 45 0) (d 46 0) (16 * b + r) else ms_half (ms_cool (d 45 0) (d 46 0) (16 * b + r))))), (n, lk, d, o)) := by
  refine EV_bk (k := 400) ?_
  rw [bk_166_0, ni_K, ni_1, ni_in (n := 4 + 2 * (16 * b + r)) (N := 132) (by omega) (by omega), ni_in (n := 4 + 2 * (16 * b + r) + 1) (N := 132) (by omega) (by omega), ni_c (n := 4 + 2 * (16 * b + r)) (by omega), ni_c (n := 4 + 2 * (16 * b + r) + 1) (by omega)]
  have l1 : lk 44 0 1 = true := hl _ _ _ rfl (by decide) (by decide)
  have l2 : lk 44 0 2 = true := hl _ _ _ rfl (by decide) (by decide)
  rw [l1, l2]
  simp only [cond_true]
  unfold ms_half ms_cool
  by_cases h1 : d 45 0 (4 + 2 * (16 * b + r)) ≤ 0
  · have h1' : ¬ 0 < d 45 0 (4 + 2 * (16 * b + r)) := Int32.not_lt.mpr h1
    by_cases hx : x = 0 <;> by_cases h4 : d 45 0 2 / 2 < 1 <;> simp [h1, h1', hx, h4]
  · have h1' : 0 < d 45 0 (4 + 2 * (16 * b + r)) := Int32.not_le.mp h1
    by_cases h2 : d 46 0 8 < d 45 0 (4 + 2 * (16 * b + r) + 1)
    · have h2' : ¬ d 45 0 (4 + 2 * (16 * b + r) + 1) ≤ d 46 0 8 := Int32.not_le.mpr h2
      by_cases hx : x = 0 <;> by_cases h4 : d 45 0 2 / 2 < 1 <;> simp [h1, h1', h2, h2', hx, h4]
    · have h2' : d 45 0 (4 + 2 * (16 * b + r) + 1) ≤ d 46 0 8 := Int32.not_lt.mp h2
      by_cases h3 : d 45 0 (4 + 2 * (16 * b + r)) < d 45 0 2
      · by_cases hx : x = 0 <;> by_cases h4 : d 45 0 (4 + 2 * (16 * b + r)) / 2 < 1 <;> simp [h1, h1', h2, h2', h3, hx, h4]
      · by_cases hx : x = 0 <;> by_cases h4 : d 45 0 2 / 2 < 1 <;> simp [h1, h1', h2, h2', h3, hx, h4]
theorem em_isHot (hl : LK lk) (h : b < 4) : EV (165, 0, [ev_R 44 0, ev_I (Int32.ofNat b)], [], 0, 0) (n, lk, d, o) = some (.inl (some (ev_I (if ms_hot (d 46 0) b then 1 else 0))), (n, lk, d, o)) := em_165 hl h
theorem em_remains (hl : LK lk) (hb : b < 4) (hr : r < 16) : EV (167, 0, [ev_R 44 0, ev_I (Int32.ofNat b), ev_I (Int32.ofNat r)], [], 0, 0) (n, lk, d, o) = some (.inl (some (ev_I (ms_rem (d 45 0) (d 46 0) b r))), (n, lk, d, o)) := by
  refine EV_bk (k := 400) ?_
  rw [bk_167_0, em_isHot hl hb]
  simp only [ev_bi]
  rw [em_boundOf hl hb hr]
  simp only [ev_bi]
  rw [em_ofRow hl (x := 0) (w := 0) rfl (by omega)]
  simp only [ev_bi]
  unfold ms_rem ms_bound
  by_cases hh : ms_hot (d 46 0) b <;> simp [hh]
/-- the weakest row of a bank, of those below k -/
def ms_weak (t w : Nat → Int32) (b : Nat) : Nat → Nat
  | 0 => 0
  | k + 1 => if ms_rem t w b k < ms_rem t w b (ms_weak t w b k) then k else ms_weak t w b k
theorem ms_weak_le (t w : Nat → Int32) (b : Nat) : ∀ k, ms_weak t w b k < k ∨ ms_weak t w b k = 0
  | 0 => Or.inr rfl
  | k + 1 => by
    unfold ms_weak
    split
    · exact Or.inl (Nat.lt_succ_self k)
    · rcases ms_weak_le t w b k with h | h
      · exact Or.inl (by omega)
      · exact Or.inr h
theorem em_weakestOf (hl : LK lk) (hb : b < 4) {R : Nat} (hR : d 45 0 1 = Int32.ofNat R) (h1 : 1 ≤ R) (h16 : R ≤ 16) : EV (168, 0, [ev_R 44 0, ev_I (Int32.ofNat b)], [], 0, 0) (n, lk, d, o) = some (.inl (some (ev_I (Int32.ofNat (ms_weak (d 45 0) (d 46 0) b R)))), (n, lk, d, o)) := by
  have loop : ∀ j k, k + j = R → 1 ≤ k → EV (168, 4, [ev_R 44 0, ev_I (Int32.ofNat b), ev_I (Int32.ofNat (ms_weak (d 45 0) (d 46 0) b k)), ev_I (Int32.ofNat k)], [], 0, 0) (n, lk, d, o) = some (.inl (some (ev_I (Int32.ofNat (ms_weak (d 45 0) (d 46 0) b R)))), (n, lk, d, o)) := by
    intro j
    induction j with
    | zero =>
      intro k hk h1
      refine EV_bk (k := 400) ?_
      have : k = R := by omega
      subst this
      rw [bk_168_4, hR]
      simp (decide := true) [hl, ni_lt (a := k) (b := k) (by omega) (by omega)]
    | succ j ih =>
      intro k hk h1
      refine EV_bk (k := 400) ?_
      have hw : ms_weak (d 45 0) (d 46 0) b k < 16 := by
        rcases ms_weak_le (d 45 0) (d 46 0) b k with h | h <;> omega
      rw [bk_168_4, hR, em_remains hl hb (by omega)]
      simp only [ev_bi]
      rw [em_remains hl hb hw]
      simp only [ev_bi]
      have hlt : Int32.ofNat k < Int32.ofNat R := (ni_lt (by omega) (by omega)).mpr (by omega)
      have l1 : lk 44 0 1 = true := hl _ _ _ rfl (by decide) (by decide)
      rw [l1, cond_true, if_pos hlt, ni_1]
      have e := ih (k + 1) (by omega) (by omega)
      by_cases hc : ms_rem (d 45 0) (d 46 0) b k < ms_rem (d 45 0) (d 46 0) b (ms_weak (d 45 0) (d 46 0) b k)
      · rw [if_pos hc]
        rw [show ms_weak (d 45 0) (d 46 0) b (k + 1) = k by show (if _ then _ else _) = _; rw [if_pos hc]] at e
        exact e
      · rw [if_neg hc]
        rw [show ms_weak (d 45 0) (d 46 0) b (k + 1) = ms_weak (d 45 0) (d 46 0) b k by show (if _ then _ else _) = _; rw [if_neg hc]] at e
        exact e
  refine EV_bk (k := 400) ?_
  rw [bk_168_0]
  have e := loop (R - 1) 1 (by omega) (by omega)
  have e0 : ms_weak (d 45 0) (d 46 0) b 1 = 0 := by
    show (if _ then 0 else 0) = 0
    split <;> rfl
  rw [e0] at e
  exact e
end EM2
/-! WHAT THE METHODS DO, 3: the reference's line -/
def ms_en (f : Option Nat) : Int32 := match f with
  | none => -1
  | some q => Int32.ofNat q
abbrev ms_wt (w : Nat → Int32) (b : Nat) (last : Int32) (q : Nat) : Prop := w (375 + 6 * q + 3) = 1 ∧ w (375 + 6 * q + 0) = Int32.ofNat b ∧ last < w (375 + 6 * q + 5)
def ms_fnd (w : Nat → Int32) (b : Nat) (last : Int32) : Nat → Option Nat
  | 0 => none
  | q + 1 => if ms_wt w b last q then (match ms_fnd w b last q with
    | none => some q
    | some f => if w (375 + 6 * q + 5) < w (375 + 6 * f + 5) then some q else some f) else ms_fnd w b last q
theorem ms_fnd_lt {w : Nat → Int32} {b : Nat} {last : Int32} : ∀ {q f : Nat}, ms_fnd w b last q = some f → f < q
  | 0, _, h => by cases h
  | q + 1, f, h => by
    unfold ms_fnd at h
    split at h
    · split at h
      · cases h; exact Nat.lt_succ_self q
      · rename_i g hg
        have := ms_fnd_lt hg
        split at h
        · cases h; exact Nat.lt_succ_self q
        · cases h; omega
    · have := ms_fnd_lt h
      omega
def ms_wat (w : Nat → Int32) (b C : Nat) : Nat → Int32 → Option Nat
  | 0, last => ms_fnd w b last C
  | i + 1, last => match ms_fnd w b last C with
    | none => none
    | some f => ms_wat w b C i (w (375 + 6 * f + 5))
theorem ms_en_ne {f : Nat} (h : f < 1000) : ¬ Int32.ofNat f = -1 := by
  intro e
  have e2 : (Int32.ofNat f).toInt = (-1 : Int32).toInt := by rw [e]
  rw [ni_t (by omega)] at e2
  have : (-1 : Int32).toInt = -1 := by decide
  omega
section EM3
variable {n : Nat} {lk : Nat → Nat → Nat → Bool} {d : Nat → Nat → Nat → Int32} {o : ev_W} {b : Nat}
theorem em_wloop (hl : LK lk) {C : Nat} (hC : d 46 0 9 = Int32.ofNat C) (h40 : C ≤ 40) {k last i : Int32} {r : ev_O × ev_M}
    (hr : EV (164, 20, [ev_R 44 0, ev_I (Int32.ofNat b), ev_I k, ev_I last, ev_I (ms_en (ms_fnd (d 46 0) b last C)), ev_I i, ev_I (Int32.ofNat C)], [], 0, 0) (n, lk, d, o) = some r) :
    ∀ j q, q + j = C → EV (164, 20, [ev_R 44 0, ev_I (Int32.ofNat b), ev_I k, ev_I last, ev_I (ms_en (ms_fnd (d 46 0) b last q)), ev_I i, ev_I (Int32.ofNat q)], [], 0, 0) (n, lk, d, o) = some r := by
  intro j
  induction j with
  | zero => intro q hq; rw [show q = C by omega]; exact hr
  | succ j ih =>
    intro q hq
    have e := ih (q + 1) (by omega)
    have hlt : Int32.ofNat q < Int32.ofNat C := (ni_lt (by omega) (by omega)).mpr (by omega)
    have l2 : lk 44 0 2 = true := hl _ _ _ rfl (by decide) (by decide)
    refine EV_bk (k := 400) ?_
    rw [bk_164_20, l2, cond_true, hC, if_pos hlt, em_ofRequest hl (x := 3) (w := 3) rfl (by omega)]
    simp only [ev_bi]
    rw [em_ofRequest hl (x := 0) (w := 0) rfl (by omega)]
    simp only []
    rw [em_ofRequest hl (x := 5) (w := 5) rfl (by omega)]
    simp only [ni_1]
    have hstep : ms_fnd (d 46 0) b last (q + 1) = if ms_wt (d 46 0) b last q then (match ms_fnd (d 46 0) b last q with
      | none => some q
      | some f => if d 46 0 (375 + 6 * q + 5) < d 46 0 (375 + 6 * f + 5) then some q else some f) else ms_fnd (d 46 0) b last q := rfl
    by_cases h1 : d 46 0 (375 + 6 * q + 3) = 1
    · rw [if_pos h1]
      by_cases h2 : d 46 0 (375 + 6 * q + 0) = Int32.ofNat b
      · rw [if_pos h2]
        by_cases h3 : d 46 0 (375 + 6 * q + 5) ≤ last
        · rw [if_pos h3]
          rw [hstep, if_neg (fun z => Int32.not_lt.mpr h3 z.2.2)] at e
          exact e
        · rw [if_neg h3]
          rw [hstep, if_pos ⟨h1, h2, Int32.not_le.mp h3⟩] at e
          cases hf : ms_fnd (d 46 0) b last q with
          | none =>
            rw [hf] at e
            rw [if_pos (show ms_en none = -1 from rfl)]
            exact e
          | some f =>
            have hfq := ms_fnd_lt hf
            rw [hf] at e
            rw [if_neg (show ¬ ms_en (some f) = -1 from ms_en_ne (by omega)), show ms_en (some f) = Int32.ofNat f from rfl, em_ofRequest hl (x := 5) (w := 5) (q := q) rfl (by omega)]
            simp only []
            rw [em_ofRequest hl (x := 5) (w := 5) (q := f) rfl (by omega)]
            simp only []
            by_cases h4 : d 46 0 (375 + 6 * q + 5) < d 46 0 (375 + 6 * f + 5)
            · rw [if_pos h4]
              simp only [if_pos h4] at e
              exact e
            · rw [if_neg h4]
              simp only [if_neg h4] at e
              exact e
      · rw [if_neg h2]
        rw [hstep, if_neg (fun z => h2 z.2.1)] at e
        exact e
    · rw [if_neg h1]
      rw [hstep, if_neg (fun z => h1 z.1)] at e
      exact e
theorem em_waitingAt (hl : LK lk) {C : Nat} (hC : d 46 0 9 = Int32.ofNat C) (h40 : C ≤ 40) {k : Nat} (hk : k < 1000) : EV (164, 0, [ev_R 44 0, ev_I (Int32.ofNat b), ev_I (Int32.ofNat k)], [], 0, 0) (n, lk, d, o) = some (.inl (some (ev_I (ms_en (ms_wat (d 46 0) b C k (-1))))), (n, lk, d, o)) := by
  have l2 : lk 44 0 2 = true := hl _ _ _ rfl (by decide) (by decide)
  have outer : ∀ j i, i + j = k → ∀ (last y4 : Int32), EV (164, 8, [ev_R 44 0, ev_I (Int32.ofNat b), ev_I (Int32.ofNat k), ev_I last, ev_I y4, ev_I (Int32.ofNat i)], [], 0, 0) (n, lk, d, o) = some (.inl (some (ev_I (ms_en (ms_wat (d 46 0) b C j last)))), (n, lk, d, o)) := by
    intro j
    induction j with
    | zero =>
      intro i hi last y4
      refine EV_bk (k := 400) ?_
      rw [bk_164_8, if_pos ((ni_le (by omega) (by omega)).mpr (by omega))]
      refine em_wloop hl hC h40 (last := last) ?_ C 0 (by omega)
      refine EV_bk (k := 400) ?_
      rw [bk_164_20, l2, cond_true, hC, if_neg (fun q => by have := (ni_lt (by omega) (by omega)).mp q; omega)]
      have e : ms_wat (d 46 0) b C 0 last = ms_fnd (d 46 0) b last C := rfl
      rw [e]
      cases hf : ms_fnd (d 46 0) b last C with
      | none => rw [if_pos (show ms_en none = -1 from rfl)]; rfl
      | some f =>
        have hfC := ms_fnd_lt hf
        rw [if_neg (show ¬ ms_en (some f) = -1 from ms_en_ne (by omega)), show ms_en (some f) = Int32.ofNat f from rfl, em_ofRequest hl (x := 5) (w := 5) (q := f) rfl (by omega)]
        simp only [ev_bi, ni_1]
        refine EV_bk (k := 400) ?_
        rw [bk_164_8, if_neg (fun q => by have := (ni_le (by omega) (by omega)).mp q; omega)]
    | succ j ih =>
      intro i hi last y4
      refine EV_bk (k := 400) ?_
      rw [bk_164_8, if_pos ((ni_le (by omega) (by omega)).mpr (by omega))]
      refine em_wloop hl hC h40 (last := last) ?_ C 0 (by omega)
      refine EV_bk (k := 400) ?_
      rw [bk_164_20, l2, cond_true, hC, if_neg (fun q => by have := (ni_lt (by omega) (by omega)).mp q; omega)]
      have e : ms_wat (d 46 0) b C (j + 1) last = match ms_fnd (d 46 0) b last C with
        | none => none
        | some f => ms_wat (d 46 0) b C j (d 46 0 (375 + 6 * f + 5)) := rfl
      rw [e]
      cases hf : ms_fnd (d 46 0) b last C with
      | none => rw [if_pos (show ms_en none = -1 from rfl)]; rfl
      | some f =>
        have hfC := ms_fnd_lt hf
        rw [if_neg (show ¬ ms_en (some f) = -1 from ms_en_ne (by omega)), show ms_en (some f) = Int32.ofNat f from rfl, em_ofRequest hl (x := 5) (w := 5) (q := f) rfl (by omega)]
        simp only [ev_bi, ni_1]
        exact ih (i + 1) (by omega) _ _
  refine EV_bk (k := 400) ?_
  rw [bk_164_0]
  exact outer k 0 (by omega) _ _
end EM3
/-! WHAT THE METHODS DO, 4: the reference's tick, its first steps -/
theorem u3w (d : Nat → Nat → Nat → Int32) (r i k : Nat) (v : Int32) : ev_u3 d r i k v = ev_w3 d r i (ev_u1 (d r i) k v) := by
  funext a b c
  unfold ev_u3 ev_w3 ev_u2 ev_w2
  by_cases h1 : a = r
  · subst h1
    by_cases h2 : b = i
    · subst h2; simp
    · simp [h2]
  · simp [h1]
theorem w3s (d : Nat → Nat → Nat → Int32) (r i : Nat) (f : Nat → Int32) : ev_w3 d r i f r i = f := by
  unfold ev_w3 ev_w2
  simp
theorem w3n {d : Nat → Nat → Nat → Int32} {r i r' : Nat} {f : Nat → Int32} (h : r' ≠ r) : ev_w3 d r i f r' = d r' := by
  unfold ev_w3
  simp [h]
theorem w3w (d : Nat → Nat → Nat → Int32) (r i : Nat) (f g : Nat → Int32) : ev_w3 (ev_w3 d r i f) r i g = ev_w3 d r i g := by
  funext a b c
  unfold ev_w3 ev_w2
  by_cases h1 : a = r
  · subst h1
    by_cases h2 : b = i <;> simp [h2]
  · simp [h1]
theorem w3e (d : Nat → Nat → Nat → Int32) (r i : Nat) : ev_w3 d r i (d r i) = d := by
  funext a b c
  unfold ev_w3 ev_w2
  by_cases h1 : a = r
  · subst h1
    by_cases h2 : b = i
    · subst h2; simp
    · simp [h2]
  · simp [h1]
theorem u1s (w : Nat → Int32) (k : Nat) (v : Int32) : ev_u1 w k v k = v := by simp [ev_u1]
theorem u1n {w : Nat → Int32} {k j : Nat} {v : Int32} (h : j ≠ k) : ev_u1 w k v j = w j := by simp [ev_u1, h]
def ms_come (w : Nat → Int32) (q : Nat) : Nat → Int32 := ev_u1 (ev_u1 (ev_u1 w (375 + 6 * q + 3) 1) (375 + 6 * q + 5) (w 10)) 10 (w 10 + 1)
def ms_asked (w : Nat → Int32) : Nat → Nat → Int32
  | 0 => w
  | q + 1 => if ms_asked w q (375 + 6 * q + 3) = 0 ∧ ms_asked w q (375 + 6 * q + 2) = ms_asked w q 8 then ms_come (ms_asked w q) q else ms_asked w q
theorem ms_asked_lo (w : Nat → Int32) {k : Nat} (hk : k < 375) (h10 : k ≠ 10) : ∀ q, ms_asked w q k = w k
  | 0 => rfl
  | q + 1 => by
    unfold ms_asked
    split
    · unfold ms_come
      rw [u1n h10, u1n (by omega), u1n (by omega)]
      exact ms_asked_lo w hk h10 q
    · exact ms_asked_lo w hk h10 q
def ms_dl (w : Nat → Int32) : Nat → Nat → Int32
  | 0 => w
  | b + 1 => ev_u1 (ev_u1 (ms_dl w b) (19 + 9 * b + 0) (ms_dl w b (19 + 9 * b + 0) + 1)) 11 (ms_dl w b 11 + 1)
def ms_debts (t w : Nat → Int32) (B : Nat) : Nat → Int32 := if w 8 = 0 then w else if w 8 - w 8 / t 3 * t 3 = 0 then ms_dl w B else w
def ms_moves (w : Nat → Int32) (b k : Nat) : Nat → Int32 :=
  let w1 := ev_u1 w (19 + 9 * b + 0) (w (19 + 9 * b + 0) + -1)
  let w2 := ev_u1 w1 (19 + 9 * b + 4) (w1 (19 + 9 * b + 4) + 1)
  let w3 := ev_u1 w2 (19 + 9 * k + 0) (w2 (19 + 9 * k + 0) + 1)
  let w4 := ev_u1 w3 (19 + 9 * k + 5) (w3 (19 + 9 * k + 5) + 1)
  ev_u1 w4 15 (w4 15 + 1)
abbrev ms_can (w : Nat → Int32) (b : Nat) : Prop := ¬ ms_hot w b ∧ w (19 + 9 * b + 0) < w 1
def ms_tk (w : Nat → Int32) : Nat → Option Nat
  | 0 => none
  | k + 1 => if ms_can w k then (match ms_tk w k with
    | none => some k
    | some f => if w (19 + 9 * k + 1) < w (19 + 9 * f + 1) then some k else some f) else ms_tk w k
theorem ms_tk_lt {w : Nat → Int32} : ∀ {k f : Nat}, ms_tk w k = some f → f < k
  | 0, _, h => by cases h
  | k + 1, f, h => by
    unfold ms_tk at h
    split at h
    · split at h
      · cases h; exact Nat.lt_succ_self k
      · rename_i g hg
        have := ms_tk_lt hg
        split at h
        · cases h; exact Nat.lt_succ_self k
        · cases h; omega
    · have := ms_tk_lt h
      omega
def ms_trades (w : Nat → Int32) (B : Nat) : Nat → Nat → Int32
  | 0 => w
  | b + 1 => if ms_hot (ms_trades w B b) b ∧ 0 < ms_trades w B b (19 + 9 * b + 0) then (match ms_tk (ms_trades w B b) B with
    | none => ms_trades w B b
    | some k => ms_moves (ms_trades w B b) b k) else ms_trades w B b
theorem ms_moves_lo {w : Nat → Int32} {b k j : Nat} (hj : j < 15) : ms_moves w b k j = w j := by
  unfold ms_moves
  rw [u1n (by omega), u1n (by omega), u1n (by omega), u1n (by omega), u1n (by omega)]
theorem ms_trades_lo (w : Nat → Int32) (B : Nat) {j : Nat} (hj : j < 15) : ∀ b, ms_trades w B b j = w j
  | 0 => rfl
  | b + 1 => by
    unfold ms_trades
    split
    · cases ms_tk (ms_trades w B b) B with
      | none => exact ms_trades_lo w B hj b
      | some k => exact (ms_moves_lo hj).trans (ms_trades_lo w B hj b)
    · exact ms_trades_lo w B hj b
section EM4
variable {n : Nat} {lk : Nat → Nat → Nat → Bool} {d : Nat → Nat → Nat → Int32} {o : ev_W}
theorem em_comes (hl : LK lk) {q : Nat} (hq : q < 40) : EV (163, 0, [ev_R 44 0, ev_I (Int32.ofNat q)], [], 0, 0) (n, lk, d, o) = some (.inl none, (n, lk, ev_w3 d 46 0 (ms_come (d 46 0) q), o)) := by
  have l2 : lk 44 0 2 = true := hl _ _ _ rfl (by decide) (by decide)
  refine EV_bk (k := 400) ?_
  rw [bk_163_0, em_setsRequest hl (x := 3) (w := 3) rfl (by omega)]
  simp only [ev_bv, l2, cond_true]
  rw [em_setsRequest hl (x := 5) (w := 5) rfl (by omega)]
  simp only [l2, cond_true, u3w, w3s, w3w]
  rw [u1n (w := d 46 0) (by omega), u1n (by omega), u1n (by omega)]
  rfl
theorem em_askedComes (hl : LK lk) {C : Nat} (hC : d 46 0 9 = Int32.ofNat C) (h40 : C ≤ 40) : EV (169, 0, [ev_R 44 0], [], 0, 0) (n, lk, d, o) = some (.inl none, (n, lk, ev_w3 d 46 0 (ms_asked (d 46 0) C), o)) := by
  have l2 : lk 44 0 2 = true := hl _ _ _ rfl (by decide) (by decide)
  have loop : ∀ j q, q + j = C → EV (169, 2, [ev_R 44 0, ev_I (Int32.ofNat q)], [], 0, 0) (n, lk, ev_w3 d 46 0 (ms_asked (d 46 0) q), o) = some (.inl none, (n, lk, ev_w3 d 46 0 (ms_asked (d 46 0) C), o)) := by
    intro j
    induction j with
    | zero =>
      intro q hq
      refine EV_bk (k := 400) ?_
      rw [bk_169_2, l2, cond_true, w3s, ms_asked_lo _ (by omega) (by omega), hC, if_neg (fun z => by have := (ni_lt (by omega) (by omega)).mp z; omega), show q = C by omega]
    | succ j ih =>
      intro q hq
      have e := ih (q + 1) (by omega)
      have hlt : Int32.ofNat q < Int32.ofNat C := (ni_lt (by omega) (by omega)).mpr (by omega)
      have hst : ms_asked (d 46 0) (q + 1) = if ms_asked (d 46 0) q (375 + 6 * q + 3) = 0 ∧ ms_asked (d 46 0) q (375 + 6 * q + 2) = ms_asked (d 46 0) q 8 then ms_come (ms_asked (d 46 0) q) q else ms_asked (d 46 0) q := rfl
      refine EV_bk (k := 400) ?_
      rw [bk_169_2, l2, cond_true, w3s, ms_asked_lo _ (by omega) (by omega), hC, if_pos hlt, em_ofRequest hl (x := 3) (w := 3) rfl (by omega), w3s]
      simp only [ev_bi]
      rw [em_ofRequest hl (x := 2) (w := 2) rfl (by omega), w3s]
      simp only [l2, cond_true, w3s, ni_1]
      by_cases h1 : ms_asked (d 46 0) q (375 + 6 * q + 3) = 0
      · rw [if_pos h1]
        by_cases h2 : ms_asked (d 46 0) q (375 + 6 * q + 2) = ms_asked (d 46 0) q 8
        · rw [if_pos h2, em_comes hl (by omega)]
          simp only [ev_bv, w3s, w3w]
          rw [hst, if_pos ⟨h1, h2⟩] at e
          exact e
        · rw [if_neg h2]
          rw [hst, if_neg (fun z => h2 z.2)] at e
          exact e
      · rw [if_neg h1]
        rw [hst, if_neg (fun z => h1 z.1)] at e
        exact e
  refine EV_bk (k := 400) ?_
  rw [bk_169_0]
  have e := loop C 0 (by omega)
  rw [show ms_asked (d 46 0) 0 = d 46 0 from rfl, w3e] at e
  exact e
theorem em_debtsCome (hl : LK lk) {B : Nat} (hB : d 45 0 0 = Int32.ofNat B) (h4 : B ≤ 4) (h3 : d 45 0 3 ≠ 0) : EV (170, 0, [ev_R 44 0], [], 0, 0) (n, lk, d, o) = some (.inl none, (n, lk, ev_w3 d 46 0 (ms_debts (d 45 0) (d 46 0) B), o)) := by
  have l2 : lk 44 0 2 = true := hl _ _ _ rfl (by decide) (by decide)
  have l1 : lk 44 0 1 = true := hl _ _ _ rfl (by decide) (by decide)
  have loop : ∀ j b, b + j = B → EV (170, 30, [ev_R 44 0, ev_I (Int32.ofNat b)], [], 0, 0) (n, lk, ev_w3 d 46 0 (ms_dl (d 46 0) b), o) = some (.inl none, (n, lk, ev_w3 d 46 0 (ms_dl (d 46 0) B), o)) := by
    intro j
    induction j with
    | zero =>
      intro b hb
      refine EV_bk (k := 400) ?_
      rw [bk_170_30, l1, cond_true, w3n (by omega), hB, if_neg (fun z => by have := (ni_lt (by omega) (by omega)).mp z; omega), show b = B by omega]
    | succ j ih =>
      intro b hb
      have e := ih (b + 1) (by omega)
      have hlt : Int32.ofNat b < Int32.ofNat B := (ni_lt (by omega) (by omega)).mpr (by omega)
      refine EV_bk (k := 400) ?_
      rw [bk_170_30, l1, cond_true, w3n (by omega), hB, if_pos hlt, em_adds hl (x := 0) (w := 0) rfl (by omega)]
      simp only [ev_bv, l2, cond_true, ni_1, u3w, w3s, w3w]
      rw [u1n (k := 19 + 9 * b + 0) (j := 11) (by omega)]
      exact e
  refine EV_bk (k := 400) ?_
  rw [bk_170_0, l2, l1]
  simp only [cond_true]
  unfold ms_debts
  by_cases h8 : d 46 0 8 = 0
  · rw [if_pos h8, if_pos h8, w3e]
  · rw [if_neg h8, if_neg h8, if_neg h3]
    by_cases hm : d 46 0 8 - d 46 0 8 / d 45 0 3 * d 45 0 3 = 0
    · rw [if_pos hm, if_pos hm]
      have e := loop B 0 (by omega)
      rw [show ms_dl (d 46 0) 0 = d 46 0 from rfl, w3e] at e
      exact e
    · rw [if_neg hm, if_neg hm, w3e]
theorem em_moves (hl : LK lk) {b k : Nat} (hb : b < 4) (hk : k < 4) : EV (171, 0, [ev_R 44 0, ev_I (Int32.ofNat b), ev_I (Int32.ofNat k)], [], 0, 0) (n, lk, d, o) = some (.inl none, (n, lk, ev_w3 d 46 0 (ms_moves (d 46 0) b k), o)) := by
  have l2 : lk 44 0 2 = true := hl _ _ _ rfl (by decide) (by decide)
  refine EV_bk (k := 400) ?_
  rw [bk_171_0, em_adds hl (x := 0) (w := 0) rfl (by omega)]
  simp only [ev_bv]
  rw [em_adds hl (x := 4) (w := 4) rfl (by omega)]
  simp only []
  rw [em_adds hl (x := 0) (w := 0) rfl (by omega)]
  simp only []
  rw [em_adds hl (x := 5) (w := 5) rfl (by omega)]
  simp only [l2, cond_true, u3w, w3s, w3w]
  rfl
theorem em_canTake (hl : LK lk) {b : Nat} (hb : b < 4) : EV (172, 0, [ev_R 44 0, ev_I (Int32.ofNat b)], [], 0, 0) (n, lk, d, o) = some (.inl (some (ev_I (if ms_can (d 46 0) b then 1 else 0))), (n, lk, d, o)) := by
  have l2 : lk 44 0 2 = true := hl _ _ _ rfl (by decide) (by decide)
  refine EV_bk (k := 400) ?_
  rw [bk_172_0, em_isHot hl hb]
  simp only [ev_bi]
  rw [em_of hl (x := 0) (w := 0) rfl (by omega)]
  simp only [l2, cond_true]
  by_cases h1 : ms_hot (d 46 0) b
  · have hc : ¬ ms_can (d 46 0) b := fun z => z.1 h1
    rw [if_pos h1, if_neg (by decide), if_neg hc]
  · rw [if_neg h1, if_pos rfl]
    by_cases h2 : d 46 0 (19 + 9 * b + 0) < d 46 0 1
    · have hc : ms_can (d 46 0) b := ⟨h1, h2⟩
      rw [if_pos h2, if_pos hc]
    · have hc : ¬ ms_can (d 46 0) b := fun z => h2 z.2
      rw [if_neg h2, if_neg hc]
theorem em_trades (hl : LK lk) {B : Nat} (hB : d 45 0 0 = Int32.ofNat B) (h4 : B ≤ 4) : EV (173, 0, [ev_R 44 0], [], 0, 0) (n, lk, d, o) = some (.inl none, (n, lk, ev_w3 d 46 0 (if d 46 0 7 = 1 then ms_trades (d 46 0) B B else d 46 0), o)) := by
  have l2 : lk 44 0 2 = true := hl _ _ _ rfl (by decide) (by decide)
  have l1 : lk 44 0 1 = true := hl _ _ _ rfl (by decide) (by decide)
  by_cases h7 : d 46 0 7 = 1
  · rw [if_pos h7]
    -- the taker
    have taker : ∀ {w : Nat → Int32} {b : Nat} {r : ev_O × ev_M}, EV (173, 47, [ev_R 44 0, ev_I (Int32.ofNat b), ev_I (ms_en (ms_tk w B)), ev_I (Int32.ofNat B)], [], 0, 0) (n, lk, ev_w3 d 46 0 w, o) = some r →
        ∀ j k, k + j = B → EV (173, 47, [ev_R 44 0, ev_I (Int32.ofNat b), ev_I (ms_en (ms_tk w k)), ev_I (Int32.ofNat k)], [], 0, 0) (n, lk, ev_w3 d 46 0 w, o) = some r := by
      intro w b r hr j
      induction j with
      | zero => intro k hk; rw [show k = B by omega]; exact hr
      | succ j ih =>
        intro k hk
        have e := ih (k + 1) (by omega)
        have hlt : Int32.ofNat k < Int32.ofNat B := (ni_lt (by omega) (by omega)).mpr (by omega)
        have hst : ms_tk w (k + 1) = if ms_can w k then (match ms_tk w k with
          | none => some k
          | some f => if w (19 + 9 * k + 1) < w (19 + 9 * f + 1) then some k else some f) else ms_tk w k := rfl
        refine EV_bk (k := 400) ?_
        rw [bk_173_47, l1, cond_true, w3n (by omega), hB, if_pos hlt, em_canTake hl (by omega)]
        simp only [ev_bi, w3s, ni_1]
        by_cases hc : ms_can w k
        · rw [if_pos hc, if_neg (by decide)]
          rw [hst, if_pos hc] at e
          cases hf : ms_tk w k with
          | none =>
            rw [hf] at e
            rw [if_pos (show ms_en none = -1 from rfl)]
            exact e
          | some f =>
            have hfk := ms_tk_lt hf
            rw [hf] at e
            rw [if_neg (show ¬ ms_en (some f) = -1 from ms_en_ne (by omega)), show ms_en (some f) = Int32.ofNat f from rfl, em_of hl (x := 1) (w := 1) (b := k) rfl (by omega)]
            simp only []
            rw [em_of hl (x := 1) (w := 1) (b := f) rfl (by omega)]
            simp only [w3s]
            by_cases h5 : w (19 + 9 * k + 1) < w (19 + 9 * f + 1)
            · rw [if_pos h5]
              simp only [if_pos h5] at e
              exact e
            · rw [if_neg h5]
              simp only [if_neg h5] at e
              exact e
        · rw [if_neg hc, if_pos rfl]
          rw [hst, if_neg hc] at e
          exact e
    have loop : ∀ j b, b + j = B → EV (173, 2, [ev_R 44 0, ev_I (Int32.ofNat b)], [], 0, 0) (n, lk, ev_w3 d 46 0 (ms_trades (d 46 0) B b), o) = some (.inl none, (n, lk, ev_w3 d 46 0 (ms_trades (d 46 0) B B), o)) := by
      intro j
      induction j with
      | zero =>
        intro b hb
        refine EV_bk (k := 400) ?_
        rw [bk_173_2, l1, cond_true, w3n (by omega), hB, if_neg (fun z => by have := (ni_lt (by omega) (by omega)).mp z; omega), show b = B by omega]
      | succ j ih =>
        intro b hb
        have e := ih (b + 1) (by omega)
        have hlt : Int32.ofNat b < Int32.ofNat B := (ni_lt (by omega) (by omega)).mpr (by omega)
        have hst : ms_trades (d 46 0) B (b + 1) = if ms_hot (ms_trades (d 46 0) B b) b ∧ 0 < ms_trades (d 46 0) B b (19 + 9 * b + 0) then (match ms_tk (ms_trades (d 46 0) B b) B with
          | none => ms_trades (d 46 0) B b
          | some k => ms_moves (ms_trades (d 46 0) B b) b k) else ms_trades (d 46 0) B b := rfl
        generalize hw : ms_trades (d 46 0) B b = w at hst
        have hw7 : w 7 = 1 := by rw [← hw, ms_trades_lo _ _ (by omega)]; exact h7
        refine EV_bk (k := 400) ?_
        rw [bk_173_2, l1, l2, cond_true, cond_true, w3n (by omega), hB, if_pos hlt, w3s, if_pos hw7, em_isHot hl (by omega), w3s]
        simp only [ev_bi, ni_1]
        by_cases h1 : ms_hot w b
        · rw [if_pos h1, if_neg (by decide), em_of hl (x := 0) (w := 0) (b := b) rfl (by omega), w3s]
          simp only []
          by_cases h2 : w (19 + 9 * b + 0) ≤ 0
          · rw [if_pos h2]
            rw [hst, if_neg (fun z => Int32.not_lt.mpr h2 z.2)] at e
            exact e
          · rw [if_neg h2]
            rw [hst, if_pos ⟨h1, Int32.not_le.mp h2⟩] at e
            refine taker (w := w) (b := b) ?_ B 0 (by omega)
            refine EV_bk (k := 400) ?_
            rw [bk_173_47, l1, cond_true, w3n (by omega), hB, if_neg (fun z => by have := (ni_lt (by omega) (by omega)).mp z; omega)]
            cases hf : ms_tk w B with
            | none =>
              rw [hf] at e
              rw [if_pos (show ms_en none = -1 from rfl), ni_1]
              exact e
            | some k =>
              have hkB := ms_tk_lt hf
              rw [hf] at e
              rw [if_neg (show ¬ ms_en (some k) = -1 from ms_en_ne (by omega)), show ms_en (some k) = Int32.ofNat k from rfl, em_moves hl (by omega) (by omega)]
              simp only [ev_bv, ni_1, w3s, w3w]
              exact e
        · rw [if_neg h1, if_pos rfl]
          rw [hst, if_neg (fun z => h1 z.1)] at e
          exact e
    refine EV_bk (k := 400) ?_
    rw [bk_173_0]
    have e := loop B 0 (by omega)
    rw [show ms_trades (d 46 0) B 0 = d 46 0 from rfl, w3e] at e
    exact e
  · rw [if_neg h7, w3e]
    refine EV_bk (k := 400) ?_
    rw [bk_173_0]
    refine EV_bk (k := 400) ?_
    rw [bk_173_2, l1, l2, cond_true, cond_true, if_neg h7]
    split <;> rfl
end EM4
/-! WHAT THE METHODS DO, 5: the reference's wishes -/
abbrev ms_late (w : Nat → Int32) (f : Option Nat) : Prop := (match f with
  | none => false
  | some q => decide (w 5 ≤ w 8 - w (375 + 6 * q + 2))) = true
def ms_wish (t w : Nat → Int32) (C b k : Nat) : Nat :=
  if ms_rem t w b k ≤ w 6 then 1 else
  if ms_late w (ms_wat w b C 0 (-1)) then 2 else
  if w 1 ≤ w (19 + 9 * b + 0) then 3 else
  if (ms_wat w b C 0 (-1)).isSome = true then 4 else
  if 0 < w (19 + 9 * b + 0) then 5 else
  if -(w 2) < w (19 + 9 * b + 0) then 6 else 0
theorem ms_wat_lt {w : Nat → Int32} {b C f : Nat} {last : Int32} (h : ms_wat w b C 0 last = some f) : f < C := ms_fnd_lt h
section EM5
variable {n : Nat} {lk : Nat → Nat → Nat → Bool} {d : Nat → Nat → Nat → Int32} {o : ev_W}
theorem em_first (hl : LK lk) {C b : Nat} (hC : d 46 0 9 = Int32.ofNat C) (h40 : C ≤ 40) : EV (164, 0, [ev_R 44 0, ev_I (Int32.ofNat b), ev_I 0], [], 0, 0) (n, lk, d, o) = some (.inl (some (ev_I (ms_en (ms_wat (d 46 0) b C 0 (-1))))), (n, lk, d, o)) := em_waitingAt hl hC h40 (k := 0) (by omega)
theorem em_wishOf (hl : LK lk) {C b k : Nat} (hC : d 46 0 9 = Int32.ofNat C) (h40 : C ≤ 40) (hb : b < 4) (hk : d 55 0 b = Int32.ofNat k) (hk16 : k < 16) : EV (174, 0, [ev_R 44 0, ev_I (Int32.ofNat b)], [], 0, 0) (n, lk, d, o) = some (.inl (some (ev_I (Int32.ofNat (ms_wish (d 45 0) (d 46 0) C b k)))), (n, lk, d, o)) := by
  have l2 : lk 44 0 2 = true := hl _ _ _ rfl (by decide) (by decide)
  have l22 : lk 44 0 22 = true := hl _ _ _ rfl (by decide) (by decide)
  have tail : (if d 46 0 (19 + 9 * b + 0) ≤ 0 then
        (if d 46 0 (19 + 9 * b + 0) ≤ -(d 46 0 2) then (some (.inl (some (ev_I (0 : Int32))), (n, lk, d, o)) : ev_T) else some (.inl (some (ev_I (6 : Int32))), (n, lk, d, o)))
      else some (.inl (some (ev_I (5 : Int32))), (n, lk, d, o))) = some (.inl (some (ev_I (Int32.ofNat (if 0 < d 46 0 (19 + 9 * b + 0) then 5 else if -(d 46 0 2) < d 46 0 (19 + 9 * b + 0) then 6 else 0)))), (n, lk, d, o)) := by
    by_cases h1 : d 46 0 (19 + 9 * b + 0) ≤ 0
    · rw [if_pos h1, if_neg (Int32.not_lt.mpr h1)]
      by_cases h2 : d 46 0 (19 + 9 * b + 0) ≤ -(d 46 0 2)
      · rw [if_pos h2, if_neg (Int32.not_lt.mpr h2)]; rfl
      · rw [if_neg h2, if_pos (Int32.not_le.mp h2)]; rfl
    · rw [if_neg h1, if_pos (Int32.not_le.mp h1)]; rfl
  refine EV_bk (k := 400) ?_
  rw [bk_174_0, em_first hl hC h40]
  simp only [ev_bi, l2, l22, cond_true, ni_in (n := b) (N := 4) (by omega) (by omega), ni_c (n := b) (by omega), hk]
  rw [em_remains hl hb hk16]
  simp only [l2, cond_true]
  have e0 := em_of (n := n) (lk := lk) (d := d) (o := o) (b := b) hl (x := 0) (w := 0) rfl (by omega)
  unfold ms_wish
  by_cases h1 : ms_rem (d 45 0) (d 46 0) b k ≤ d 46 0 6
  · rw [if_pos h1, if_pos h1]; rfl
  · rw [if_neg h1, if_neg h1]
    cases hf : ms_wat (d 46 0) b C 0 (-1) with
    | none =>
      rw [if_pos (show ms_en none = -1 from rfl), if_neg (show ¬ ms_late (d 46 0) none from fun z => (by cases z))]
      simp only [e0, l2, cond_true]
      by_cases h3 : d 46 0 (19 + 9 * b + 0) < d 46 0 1
      · rw [if_pos h3, if_neg (Int32.not_le.mpr h3), if_pos (show ms_en none = -1 from rfl), if_neg (show ¬ (none : Option Nat).isSome = true by decide)]
        exact tail
      · rw [if_neg h3, if_pos (Int32.not_lt.mp h3)]; rfl
    | some q =>
      have hq := ms_wat_lt hf
      have hne : ¬ ms_en (some q) = -1 := ms_en_ne (by omega)
      rw [if_neg hne, show ms_en (some q) = Int32.ofNat q from rfl, em_ofRequest hl (x := 2) (w := 2) (q := q) rfl (by omega)]
      simp only [l2, cond_true]
      by_cases h2 : d 46 0 8 - d 46 0 (375 + 6 * q + 2) < d 46 0 5
      · have h2' : ¬ ms_late (d 46 0) (some q) := fun z => Int32.not_le.mpr h2 (of_decide_eq_true z)
        rw [if_pos h2, if_neg h2']
        simp only [e0, l2, cond_true]
        by_cases h3 : d 46 0 (19 + 9 * b + 0) < d 46 0 1
        · rw [if_pos h3, if_neg (Int32.not_le.mpr h3), if_neg (ms_en_ne (by omega)), if_pos (show (some q).isSome = true from rfl)]; rfl
        · rw [if_neg h3, if_pos (Int32.not_lt.mp h3)]; rfl
      · have h2' : ms_late (d 46 0) (some q) := decide_eq_true (Int32.not_lt.mp h2)
        rw [if_neg h2, if_pos h2']; rfl
theorem em_isRefresh {k : Nat} (hk : k < 7) {μ : ev_M} : EV (175, 0, [ev_I (Int32.ofNat k)], [], 0, 0) μ = some (.inl (some (ev_I (if k = 1 ∨ k = 3 ∨ 4 < k then 1 else 0))), μ) := by
  obtain ⟨n, lk, d, o⟩ := μ
  refine EV_bk (k := 400) ?_
  rw [bk_175_0]
  have e1 : (Int32.ofNat k = (1 : Int32)) ↔ k = 1 := ni_eq (b := 1) (by omega) (by omega)
  have e3 : (Int32.ofNat k = (3 : Int32)) ↔ k = 3 := ni_eq (b := 3) (by omega) (by omega)
  have e4 : (Int32.ofNat k ≤ (4 : Int32)) ↔ k ≤ 4 := ni_le (b := 4) (by omega) (by omega)
  simp only [e1, e3, e4]
  by_cases h1 : k = 1
  · simp [h1]
  · by_cases h3 : k = 3
    · simp [h3]
    · by_cases h4 : k ≤ 4
      · have : ¬ 4 < k := by omega
        simp [h1, h3, h4, this]
      · have : 4 < k := by omega
        simp [h1, h3, h4, this]
end EM5
/-! WHAT THE METHODS DO, 6: the reference grants -/
abbrev ms_rf (k : Nat) : Prop := k = 1 ∨ k = 3 ∨ 4 < k
def ms_rank (t w : Nat → Int32) (wk wi : Nat → Nat) (b : Nat) : Int32 := 10000 * Int32.ofNat (wi b) + (if wi b = 1 then ms_rem t w b (wk b) else -(w (19 + 9 * b + 0)))
/-- the best of those below k that are not granted -/
def ms_bst (t w : Nat → Int32) (wk wi : Nat → Nat) (gr : Nat → Bool) : Nat → Option Nat
  | 0 => none
  | k + 1 => if ms_rf (wi k) ∧ gr k = false then (match ms_bst t w wk wi gr k with
    | none => some k
    | some f => if ms_rank t w wk wi k < ms_rank t w wk wi f then some k else some f) else ms_bst t w wk wi gr k
theorem ms_bst_lt {t w : Nat → Int32} {wk wi : Nat → Nat} {gr : Nat → Bool} : ∀ {k f : Nat}, ms_bst t w wk wi gr k = some f → f < k
  | 0, _, h => by cases h
  | k + 1, f, h => by
    unfold ms_bst at h
    split at h
    · split at h
      · cases h; exact Nat.lt_succ_self k
      · rename_i g hg
        have := ms_bst_lt hg
        split at h
        · cases h; exact Nat.lt_succ_self k
        · cases h; omega
    · have := ms_bst_lt h
      omega
def ms_g0 (wi : Nat → Nat) : Nat → Bool := fun b => decide (wi b = 2) || decide (wi b = 4)
def ms_gr (t w : Nat → Int32) (wk wi : Nat → Nat) (B : Nat) : Nat → Nat → Bool
  | 0 => ms_g0 wi
  | s + 1 => match ms_bst t w wk wi (ms_gr t w wk wi B s) B with
    | none => ms_gr t w wk wi B s
    | some k => fun b => if b = k then true else ms_gr t w wk wi B s b
def ms_b01 (x : Bool) : Int32 := if x = true then 1 else 0
/-- what the arrays of a plan hold -/
def ms_P (d : Nat → Nat → Nat → Int32) (B : Nat) (wk wi : Nat → Nat) : Prop := ∀ b, b < B → d 55 0 b = Int32.ofNat (wk b) ∧ d 51 0 b = Int32.ofNat (wi b) ∧ wk b < 16 ∧ wi b < 7
section EM6
variable {n : Nat} {lk : Nat → Nat → Nat → Bool} {d : Nat → Nat → Nat → Int32} {o : ev_W}
theorem em_rank (hl : LK lk) {B b : Nat} {wk wi : Nat → Nat} (hP : ms_P d B wk wi) (hB : B ≤ 4) (hb : b < B) : EV (176, 0, [ev_R 44 0, ev_I (Int32.ofNat b)], [], 0, 0) (n, lk, d, o) = some (.inl (some (ev_I (ms_rank (d 45 0) (d 46 0) wk wi b))), (n, lk, d, o)) := by
  have l18 : lk 44 0 18 = true := hl _ _ _ rfl (by decide) (by decide)
  have l22 : lk 44 0 22 = true := hl _ _ _ rfl (by decide) (by decide)
  obtain ⟨h1, h2, h3, h4⟩ := hP b hb
  refine EV_bk (k := 400) ?_
  rw [bk_176_0]
  simp only [l18, l22, cond_true, ni_in (n := b) (N := 4) (by omega) (by omega), ni_c (n := b) (by omega), h1, h2]
  have e1 : (Int32.ofNat (wi b) = (1 : Int32)) ↔ wi b = 1 := ni_eq (b := 1) (by omega) (by omega)
  simp only [e1]
  unfold ms_rank
  by_cases h : wi b = 1
  · rw [if_pos h, if_pos h, em_remains hl (by omega) h3]
    rfl
  · rw [if_neg h, if_neg h, em_of hl (x := 0) (w := 0) rfl (by omega)]
    rfl
theorem em_grants (hl : LK lk) {B S : Nat} {wk wi : Nat → Nat} (hB : d 45 0 0 = Int32.ofNat B) (h4 : B ≤ 4) (hS : d 46 0 0 = Int32.ofNat S) (hS4 : S ≤ 4) (hP : ms_P d B wk wi) :
    ∃ f, EV (177, 0, [ev_R 44 0], [], 0, 0) (n, lk, d, o) = some (.inl none, (n, lk, ev_w3 d 52 0 f, o)) ∧ ∀ b, b < B → f b = ms_b01 (ms_gr (d 45 0) (d 46 0) wk wi B S b) := by
  have l1 : lk 44 0 1 = true := hl _ _ _ rfl (by decide) (by decide)
  have l2 : lk 44 0 2 = true := hl _ _ _ rfl (by decide) (by decide)
  have l18 : lk 44 0 18 = true := hl _ _ _ rfl (by decide) (by decide)
  have l19 : lk 44 0 19 = true := hl _ _ _ rfl (by decide) (by decide)
  have hP' : ∀ f, ms_P (ev_w3 d 52 0 f) B wk wi := fun f b hb => by
    obtain ⟨h1, h2, h3⟩ := hP b hb
    rw [w3n (by omega), w3n (by omega)]
    exact ⟨h1, h2, h3⟩
  have e45 : ∀ f, ev_w3 d 52 0 f 45 = d 45 := fun f => w3n (by omega)
  have e46 : ∀ f, ev_w3 d 52 0 f 46 = d 46 := fun f => w3n (by omega)
  have e51 : ∀ f, ev_w3 d 52 0 f 51 = d 51 := fun f => w3n (by omega)
  have hblt : ∀ {b}, b < B → Int32.ofNat b < Int32.ofNat B := fun {b} h => (ni_lt (by omega) (by omega)).mpr h
  have hbge : ∀ {b}, ¬ b < B → b ≤ 4 → ¬ Int32.ofNat b < Int32.ofNat B := fun {b} h h2 z => h ((ni_lt (by omega) (by omega)).mp z)
  -- the best
  have best : ∀ {f : Nat → Int32} {gr : Nat → Bool} {s : Int32} {r : ev_O × ev_M}, (∀ b, b < B → f b = ms_b01 (gr b)) → EV (177, 65, [ev_R 44 0, ev_I s, ev_I (ms_en (ms_bst (d 45 0) (d 46 0) wk wi gr B)), ev_I (Int32.ofNat B)], [], 0, 0) (n, lk, ev_w3 d 52 0 f, o) = some r →
      ∀ j k, k + j = B → EV (177, 65, [ev_R 44 0, ev_I s, ev_I (ms_en (ms_bst (d 45 0) (d 46 0) wk wi gr k)), ev_I (Int32.ofNat k)], [], 0, 0) (n, lk, ev_w3 d 52 0 f, o) = some r := by
    intro f gr s r hf hr j
    induction j with
    | zero => intro k hk; rw [show k = B by omega]; exact hr
    | succ j ih =>
      intro k hk
      have e := ih (k + 1) (by omega)
      obtain ⟨p1, p2, p3, p4⟩ := hP k (by omega)
      have hst : ms_bst (d 45 0) (d 46 0) wk wi gr (k + 1) = if ms_rf (wi k) ∧ gr k = false then (match ms_bst (d 45 0) (d 46 0) wk wi gr k with
        | none => some k
        | some f => if ms_rank (d 45 0) (d 46 0) wk wi k < ms_rank (d 45 0) (d 46 0) wk wi f then some k else some f) else ms_bst (d 45 0) (d 46 0) wk wi gr k := rfl
      refine EV_bk (k := 400) ?_
      rw [bk_177_65]
      simp only [l1, l18, cond_true, e45, e51, hB, ni_in (n := k) (N := 4) (by omega) (by omega), ni_c (n := k) (by omega), p2]
      rw [if_pos (hblt (by omega)), em_isRefresh p4]
      simp only [ev_bi, l19, cond_true, w3s, hf k (by omega), ni_1]
      by_cases c1 : ms_rf (wi k)
      · rw [if_pos (show wi k = 1 ∨ wi k = 3 ∨ 4 < wi k from c1), if_neg (by decide)]
        cases hg : gr k with
        | true =>
          rw [if_neg (show ¬ ms_b01 true = 0 by decide)]
          rw [hst, if_neg (fun z => by rw [hg] at z; exact absurd z.2 (by decide))] at e
          exact e
        | false =>
          rw [if_pos (show ms_b01 false = 0 from rfl)]
          rw [hst, if_pos ⟨c1, hg⟩] at e
          cases hb9 : ms_bst (d 45 0) (d 46 0) wk wi gr k with
          | none =>
            rw [hb9] at e
            rw [if_pos (show ms_en none = -1 from rfl)]
            exact e
          | some f9 =>
            have hlt := ms_bst_lt hb9
            rw [hb9] at e
            rw [if_neg (show ¬ ms_en (some f9) = -1 from ms_en_ne (by omega)), show ms_en (some f9) = Int32.ofNat f9 from rfl, em_rank hl (hP' f) h4 (b := k) (by omega)]
            simp only []
            rw [em_rank hl (hP' f) h4 (b := f9) (by omega)]
            simp only [e45, e46]
            by_cases c5 : ms_rank (d 45 0) (d 46 0) wk wi k < ms_rank (d 45 0) (d 46 0) wk wi f9
            · rw [if_pos c5]
              simp only [if_pos c5] at e
              exact e
            · rw [if_neg c5]
              simp only [if_neg c5] at e
              exact e
      · rw [if_neg (show ¬ (wi k = 1 ∨ wi k = 3 ∨ 4 < wi k) from c1), if_pos rfl]
        rw [hst, if_neg (fun z => c1 z.1)] at e
        exact e
  -- the slots
  have slots : ∀ j s (f : Nat → Int32), s + j = S → (∀ b, b < B → f b = ms_b01 (ms_gr (d 45 0) (d 46 0) wk wi B s b)) → ∃ f', EV (177, 51, [ev_R 44 0, ev_I (Int32.ofNat s)], [], 0, 0) (n, lk, ev_w3 d 52 0 f, o) = some (.inl none, (n, lk, ev_w3 d 52 0 f', o)) ∧ ∀ b, b < B → f' b = ms_b01 (ms_gr (d 45 0) (d 46 0) wk wi B S b) := by
    intro j
    induction j with
    | zero =>
      intro s f hs hf
      refine ⟨f, ?_, by rw [show S = s by omega]; exact hf⟩
      refine EV_bk (k := 400) ?_
      rw [bk_177_51]
      simp only [l2, cond_true, e46, hS]
      rw [if_neg (fun z => by have := (ni_lt (by omega) (by omega)).mp z; omega)]
    | succ j ih =>
      intro s f hs hf
      have hst : ms_gr (d 45 0) (d 46 0) wk wi B (s + 1) = match ms_bst (d 45 0) (d 46 0) wk wi (ms_gr (d 45 0) (d 46 0) wk wi B s) B with
        | none => ms_gr (d 45 0) (d 46 0) wk wi B s
        | some k => fun b => if b = k then true else ms_gr (d 45 0) (d 46 0) wk wi B s b := rfl
      have go : ∀ {r : ev_O × ev_M}, EV (177, 65, [ev_R 44 0, ev_I (Int32.ofNat s), ev_I (ms_en (ms_bst (d 45 0) (d 46 0) wk wi (ms_gr (d 45 0) (d 46 0) wk wi B s) B)), ev_I (Int32.ofNat B)], [], 0, 0) (n, lk, ev_w3 d 52 0 f, o) = some r → EV (177, 51, [ev_R 44 0, ev_I (Int32.ofNat s)], [], 0, 0) (n, lk, ev_w3 d 52 0 f, o) = some r := by
        intro r hr
        refine EV_bk (k := 400) ?_
        rw [bk_177_51]
        simp only [l2, cond_true, e46, hS]
        rw [if_pos ((ni_lt (by omega) (by omega)).mpr (by omega))]
        exact best hf hr B 0 (by omega)
      cases hb9 : ms_bst (d 45 0) (d 46 0) wk wi (ms_gr (d 45 0) (d 46 0) wk wi B s) B with
      | none =>
        obtain ⟨f', g1, g2⟩ := ih (s + 1) f (by omega) (by rw [hst, hb9]; exact hf)
        refine ⟨f', go ?_, g2⟩
        rw [hb9]
        refine EV_bk (k := 400) ?_
        rw [bk_177_65]
        simp only [l1, cond_true, e45, hB]
        rw [if_neg (hbge (by omega) (by omega)), if_pos (show ms_en none = -1 from rfl), ni_1]
        exact g1
      | some k =>
        have hk := ms_bst_lt hb9
        obtain ⟨f', g1, g2⟩ := ih (s + 1) (ev_u1 f k 1) (by omega) (by
          rw [hst, hb9]
          intro b hb
          show ev_u1 f k 1 b = ms_b01 (if b = k then true else ms_gr (d 45 0) (d 46 0) wk wi B s b)
          by_cases e : b = k
          · rw [e, u1s, if_pos rfl]; rfl
          · rw [u1n e, if_neg e]; exact hf b hb)
        refine ⟨f', go ?_, g2⟩
        rw [hb9]
        refine EV_bk (k := 400) ?_
        rw [bk_177_65]
        simp only [l1, l19, cond_true, e45, hB]
        rw [if_neg (hbge (by omega) (by omega)), if_neg (show ¬ ms_en (some k) = -1 from ms_en_ne (by omega)), show ms_en (some k) = Int32.ofNat k from rfl]
        simp only [ni_in (n := k) (N := 4) (by omega) (by omega), ni_c (n := k) (by omega), cond_true, u3w, w3s, w3w, ni_1]
        exact g1
  -- the first loop
  have first : ∀ j k (f : Nat → Int32), k + j = B → (∀ b, b < k → f b = ms_b01 (ms_g0 wi b)) → ∃ f', EV (177, 2, [ev_R 44 0, ev_I (Int32.ofNat k)], [], 0, 0) (n, lk, ev_w3 d 52 0 f, o) = some (.inl none, (n, lk, ev_w3 d 52 0 f', o)) ∧ ∀ b, b < B → f' b = ms_b01 (ms_gr (d 45 0) (d 46 0) wk wi B S b) := by
    intro j
    induction j with
    | zero =>
      intro k f hk hf
      obtain ⟨f', g1, g2⟩ := slots S 0 f (by omega) (by rw [show B = k by omega]; exact hf)
      refine ⟨f', ?_, g2⟩
      refine EV_bk (k := 400) ?_
      rw [bk_177_2]
      simp only [l1, cond_true, e45, hB]
      rw [if_neg (hbge (by omega) (by omega))]
      exact g1
    | succ j ih =>
      intro k f hk hf
      obtain ⟨p1, p2, p3, p4⟩ := hP k (by omega)
      have upd : ∀ {v : Int32}, v = ms_b01 (ms_g0 wi k) → ∃ f', EV (177, 2, [ev_R 44 0, ev_I (Int32.ofNat (k + 1))], [], 0, 0) (n, lk, ev_w3 d 52 0 (ev_u1 f k v), o) = some (.inl none, (n, lk, ev_w3 d 52 0 f', o)) ∧ ∀ b, b < B → f' b = ms_b01 (ms_gr (d 45 0) (d 46 0) wk wi B S b) := fun {v} hv =>
        ih (k + 1) (ev_u1 f k v) (by omega) (fun b hb => by
          by_cases e : b = k
          · rw [e, u1s]; exact hv
          · rw [u1n e]; exact hf b (by omega))
      have e2 : (Int32.ofNat (wi k) = (2 : Int32)) ↔ wi k = 2 := ni_eq (b := 2) (by omega) (by omega)
      have e4 : (Int32.ofNat (wi k) = (4 : Int32)) ↔ wi k = 4 := ni_eq (b := 4) (by omega) (by omega)
      by_cases c2 : wi k = 2
      · obtain ⟨f', g1, g2⟩ := upd (v := 1) (by simp [ms_b01, ms_g0, c2])
        refine ⟨f', ?_, g2⟩
        refine EV_bk (k := 400) ?_
        rw [bk_177_2]
        simp only [l1, l18, l19, cond_true, e45, e51, hB, ni_in (n := k) (N := 4) (by omega) (by omega), ni_c (n := k) (by omega), p2, e2, e4, u3w, w3s, w3w, ni_1]
        rw [if_pos (hblt (by omega)), if_pos c2]
        exact g1
      · by_cases c4 : wi k = 4
        · obtain ⟨f', g1, g2⟩ := upd (v := 1) (by simp [ms_b01, ms_g0, c4])
          refine ⟨f', ?_, g2⟩
          refine EV_bk (k := 400) ?_
          rw [bk_177_2]
          simp only [l1, l18, l19, cond_true, e45, e51, hB, ni_in (n := k) (N := 4) (by omega) (by omega), ni_c (n := k) (by omega), p2, e2, e4, u3w, w3s, w3w, ni_1]
          rw [if_pos (hblt (by omega)), if_neg c2, if_pos c4]
          exact g1
        · obtain ⟨f', g1, g2⟩ := upd (v := 0) (by simp [ms_b01, ms_g0, c2, c4])
          refine ⟨f', ?_, g2⟩
          refine EV_bk (k := 400) ?_
          rw [bk_177_2]
          simp only [l1, l18, l19, cond_true, e45, e51, hB, ni_in (n := k) (N := 4) (by omega) (by omega), ni_c (n := k) (by omega), p2, e2, e4, u3w, w3s, w3w, ni_1]
          rw [if_pos (hblt (by omega)), if_neg c2, if_neg c4]
          exact g1
  obtain ⟨f', g1, g2⟩ := first B 0 (d 52 0) (by omega) (fun b hb => absurd hb (Nat.not_lt_zero b))
  refine ⟨f', ?_, g2⟩
  refine EV_bk (k := 400) ?_
  rw [bk_177_0]
  rw [w3e] at g1
  exact g1
end EM6
/-! WHAT THE METHODS DO, 7: the reference plans -/
theorem w3c {d : Nat → Nat → Nat → Int32} {r i r' i' : Nat} {f g : Nat → Int32} (h : r ≠ r') : ev_w3 (ev_w3 d r i f) r' i' g = ev_w3 (ev_w3 d r' i' g) r i f := by
  funext a b c
  unfold ev_w3 ev_w2
  by_cases h1 : a = r
  · subst h1
    have : ¬ a = r' := h
    simp [this]
  · by_cases h2 : a = r'
    · subst h2
      simp [h1]
    · simp [h1, h2]
def ms_pre (t w : Nat → Int32) (C B : Nat) : Nat → Int32 :=
  if ms_debts t (ms_asked w C) B 7 = 1 then ms_trades (ms_debts t (ms_asked w C) B) B B else ms_debts t (ms_asked w C) B
theorem ms_dl_lo {w : Nat → Int32} {j : Nat} (hj : j < 19) (h11 : j ≠ 11) : ∀ b, ms_dl w b j = w j
  | 0 => rfl
  | b + 1 => by
    unfold ms_dl
    rw [u1n h11, u1n (by omega)]
    exact ms_dl_lo hj h11 b
theorem ms_debts_lo {t w : Nat → Int32} {B j : Nat} (hj : j < 19) (h11 : j ≠ 11) : ms_debts t w B j = w j := by
  unfold ms_debts
  split
  · rfl
  · split
    · exact ms_dl_lo hj h11 B
    · rfl
theorem ms_pre_lo {t w : Nat → Int32} {C B j : Nat} (hj : j < 15) (h11 : j ≠ 11) (h10 : j ≠ 10) : ms_pre t w C B j = w j := by
  unfold ms_pre
  split
  · rw [ms_trades_lo _ _ hj, ms_debts_lo (by omega) h11, ms_asked_lo _ (by omega) h10]
  · rw [ms_debts_lo (by omega) h11, ms_asked_lo _ (by omega) h10]
def ms_wk (t w : Nat → Int32) (R b : Nat) : Nat := ms_weak t w b R
def ms_wi (t w : Nat → Int32) (C R b : Nat) : Nat := ms_wish t w C b (ms_weak t w b R)
def ms_gg (t w : Nat → Int32) (C R B S b : Nat) : Bool := ms_gr t w (ms_wk t w R) (ms_wi t w C R) B S b
def ms_sv (t w : Nat → Int32) (C R B S b : Nat) : Option Nat := if ms_rf (ms_wi t w C R b) ∧ ms_gg t w C R B S b = true then none else ms_wat w b C 0 (-1)
def ms_to (t w : Nat → Int32) (C R B S b : Nat) : Int32 := if ms_rf (ms_wi t w C R b) ∧ ms_gg t w C R B S b = true then Int32.ofNat (ms_wk t w R b) else (match ms_wat w b C 0 (-1) with
  | none => -1
  | some q => w (375 + 6 * q + 1))
theorem ms_wish_lt (t w : Nat → Int32) (C b k : Nat) : ms_wish t w C b k < 7 := by
  unfold ms_wish
  repeat' split
  all_goals omega
theorem ms_wk_lt {t w : Nat → Int32} {R b : Nat} (h : R ≤ 16) : ms_wk t w R b < 16 := by
  unfold ms_wk
  rcases ms_weak_le t w b R with q | q <;> omega
section EM7
variable {n : Nat} {lk : Nat → Nat → Nat → Bool} {d : Nat → Nat → Nat → Int32} {o : ev_W}
/-- what a memory of the reference says of its memory's measures -/
def ms_D (d : Nat → Nat → Nat → Int32) (B R C S : Nat) : Prop := d 45 0 0 = Int32.ofNat B ∧ d 45 0 1 = Int32.ofNat R ∧ d 45 0 3 ≠ 0 ∧ d 46 0 9 = Int32.ofNat C ∧ d 46 0 0 = Int32.ofNat S ∧ 1 ≤ B ∧ B ≤ 4 ∧ 1 ≤ R ∧ R ≤ 16 ∧ C ≤ 40 ∧ S ≤ 4
theorem em_plans (hl : LK lk) {B R C S : Nat} (hD : ms_D d B R C S) : ∃ d', EV (178, 0, [ev_R 44 0], [], 0, 0) (n, lk, d, o) = some (.inl none, (n, lk, d', o)) ∧ d' 46 0 = ms_pre (d 45 0) (d 46 0) C B ∧
    (∀ r, r ≠ 46 → r ≠ 51 → r ≠ 52 → r ≠ 53 → r ≠ 54 → r ≠ 55 → d' r = d r) ∧
    ∀ b, b < B → d' 55 0 b = Int32.ofNat (ms_wk (d 45 0) (ms_pre (d 45 0) (d 46 0) C B) R b) ∧ d' 51 0 b = Int32.ofNat (ms_wi (d 45 0) (ms_pre (d 45 0) (d 46 0) C B) C R b) ∧ d' 52 0 b = ms_b01 (ms_gg (d 45 0) (ms_pre (d 45 0) (d 46 0) C B) C R B S b) ∧
      d' 54 0 b = ms_en (ms_sv (d 45 0) (ms_pre (d 45 0) (d 46 0) C B) C R B S b) ∧ d' 53 0 b = ms_to (d 45 0) (ms_pre (d 45 0) (d 46 0) C B) C R B S b := by
  obtain ⟨hB, hR, h3, hC, hS, h1B, h4, h1R, h16, h40, hS4⟩ := hD
  have l1 : lk 44 0 1 = true := hl _ _ _ rfl (by decide) (by decide)
  have l18 : lk 44 0 18 = true := hl _ _ _ rfl (by decide) (by decide)
  have l19 : lk 44 0 19 = true := hl _ _ _ rfl (by decide) (by decide)
  have l20 : lk 44 0 20 = true := hl _ _ _ rfl (by decide) (by decide)
  have l21 : lk 44 0 21 = true := hl _ _ _ rfl (by decide) (by decide)
  have l22 : lk 44 0 22 = true := hl _ _ _ rfl (by decide) (by decide)
  generalize hW : ms_pre (d 45 0) (d 46 0) C B = w
  have hw9 : w 9 = Int32.ofNat C := by rw [← hW, ms_pre_lo (by omega) (by omega) (by omega)]; exact hC
  have hw0 : w 0 = Int32.ofNat S := by rw [← hW, ms_pre_lo (by omega) (by omega) (by omega)]; exact hS
  generalize ht : d 45 0 = t at *
  have hblt : ∀ {b}, b < B → Int32.ofNat b < Int32.ofNat B := fun {b} h => (ni_lt (by omega) (by omega)).mpr h
  have hbge : ∀ {b}, ¬ b < B → b ≤ 4 → ¬ Int32.ofNat b < Int32.ofNat B := fun {b} h h2 z => h ((ni_lt (by omega) (by omega)).mp z)
  -- the last loop
  have last : ∀ (D : Nat → Nat → Nat → Int32), D 45 0 = t → D 46 0 = w → (∀ b, b < B → D 55 0 b = Int32.ofNat (ms_wk t w R b) ∧ D 51 0 b = Int32.ofNat (ms_wi t w C R b) ∧ D 52 0 b = ms_b01 (ms_gg t w C R B S b)) →
      ∀ j k (p q : Nat → Int32), k + j = B → (∀ b, b < k → p b = ms_en (ms_sv t w C R B S b) ∧ q b = ms_to t w C R B S b) →
      ∃ p' q', EV (178, 58, [ev_R 44 0, ev_I (Int32.ofNat k)], [], 0, 0) (n, lk, ev_w3 (ev_w3 D 54 0 p) 53 0 q, o) = some (.inl none, (n, lk, ev_w3 (ev_w3 D 54 0 p') 53 0 q', o)) ∧ ∀ b, b < B → p' b = ms_en (ms_sv t w C R B S b) ∧ q' b = ms_to t w C R B S b := by
    intro D hD45 hD46 hDD j
    have f45 : ∀ p q, ev_w3 (ev_w3 D 54 0 p) 53 0 q 45 = D 45 := fun p q => by rw [w3n (by omega), w3n (by omega)]
    have f46 : ∀ p q, ev_w3 (ev_w3 D 54 0 p) 53 0 q 46 = D 46 := fun p q => by rw [w3n (by omega), w3n (by omega)]
    have f51 : ∀ p q, ev_w3 (ev_w3 D 54 0 p) 53 0 q 51 = D 51 := fun p q => by rw [w3n (by omega), w3n (by omega)]
    have f52 : ∀ p q, ev_w3 (ev_w3 D 54 0 p) 53 0 q 52 = D 52 := fun p q => by rw [w3n (by omega), w3n (by omega)]
    have f55 : ∀ p q, ev_w3 (ev_w3 D 54 0 p) 53 0 q 55 = D 55 := fun p q => by rw [w3n (by omega), w3n (by omega)]
    have f53 : ∀ p q, ev_w3 (ev_w3 D 54 0 p) 53 0 q 53 0 = q := fun p q => w3s _ _ _ _
    have f54 : ∀ p q, ev_w3 (ev_w3 D 54 0 p) 53 0 q 54 0 = p := fun p q => by rw [w3n (by omega), w3s]
    have g54 : ∀ p q p', ev_w3 (ev_w3 (ev_w3 D 54 0 p) 53 0 q) 54 0 p' = ev_w3 (ev_w3 D 54 0 p') 53 0 q := fun p q p' => by rw [w3c (by omega), w3w]
    have g53 : ∀ p q q', ev_w3 (ev_w3 (ev_w3 D 54 0 p) 53 0 q) 53 0 q' = ev_w3 (ev_w3 D 54 0 p) 53 0 q' := fun p q q' => w3w _ _ _ _ _
    induction j with
    | zero =>
      intro k p q hk hpq
      refine ⟨p, q, ?_, fun b hb => hpq b (by omega)⟩
      refine EV_bk (k := 400) ?_
      rw [bk_178_58]
      simp only [l1, cond_true, f45, hD45, hB]
      rw [if_neg (hbge (by omega) (by omega))]
    | succ j ih =>
      intro k p q hk hpq
      obtain ⟨d55, d51, d52⟩ := hDD k (by omega)
      have upd : ∀ {v u : Int32}, v = ms_en (ms_sv t w C R B S k) → u = ms_to t w C R B S k → ∃ p' q', EV (178, 58, [ev_R 44 0, ev_I (Int32.ofNat (k + 1))], [], 0, 0) (n, lk, ev_w3 (ev_w3 D 54 0 (ev_u1 p k v)) 53 0 (ev_u1 q k u), o) = some (.inl none, (n, lk, ev_w3 (ev_w3 D 54 0 p') 53 0 q', o)) ∧ ∀ b, b < B → p' b = ms_en (ms_sv t w C R B S b) ∧ q' b = ms_to t w C R B S b := fun {v u} hv hu =>
        ih (k + 1) (ev_u1 p k v) (ev_u1 q k u) (by omega) (fun b hb => by
          by_cases e : b = k
          · rw [e, u1s, u1s]; exact ⟨hv, hu⟩
          · rw [u1n e, u1n e]; exact hpq b (by omega))
      -- served or nothing
      have nosv : ¬ (ms_rf (ms_wi t w C R k) ∧ ms_gg t w C R B S k = true) → ms_sv t w C R B S k = ms_wat w k C 0 (-1) := fun h => by unfold ms_sv; rw [if_neg h]
      have noto : ¬ (ms_rf (ms_wi t w C R k) ∧ ms_gg t w C R B S k = true) → ms_to t w C R B S k = (match ms_wat w k C 0 (-1) with
        | none => -1
        | some q => w (375 + 6 * q + 1)) := fun h => by unfold ms_to; rw [if_neg h]
      have hfirst : ∀ p q, EV (164, 0, [ev_R 44 0, ev_I (Int32.ofNat k), ev_I 0], [], 0, 0) (n, lk, ev_w3 (ev_w3 D 54 0 p) 53 0 q, o) = some (.inl (some (ev_I (ms_en (ms_wat w k C 0 (-1))))), (n, lk, ev_w3 (ev_w3 D 54 0 p) 53 0 q, o)) := fun p q => by
        have e := em_first (n := n) (lk := lk) (d := ev_w3 (ev_w3 D 54 0 p) 53 0 q) (o := o) (b := k) hl (C := C) (by rw [f46, hD46]; exact hw9) h40
        rw [f46, hD46] at e
        exact e
      have hin := ni_in (n := k) (N := 4) (by omega) (by omega)
      have hcn := ni_c (n := k) (by omega)
      by_cases c1 : ms_rf (ms_wi t w C R k)
      · cases hg : ms_gg t w C R B S k with
        | true =>
          have hsv : ms_sv t w C R B S k = none := by unfold ms_sv; rw [if_pos ⟨c1, hg⟩]
          have hto : ms_to t w C R B S k = Int32.ofNat (ms_wk t w R k) := by unfold ms_to; rw [if_pos ⟨c1, hg⟩]
          obtain ⟨p', q', g1, g2⟩ := upd (v := -1) (u := Int32.ofNat (ms_wk t w R k)) (by rw [hsv]; rfl) hto.symm
          refine ⟨p', q', ?_, g2⟩
          refine EV_bk (k := 400) ?_
          rw [bk_178_58]
          simp only [l1, l18, cond_true, f45, f51, hD45, hB, hin, hcn, d51]
          rw [if_pos (hblt (by omega)), em_isRefresh (k := ms_wi t w C R k) (ms_wish_lt _ _ _ _ _)]
          simp only [ev_bi]
          rw [if_pos (show ms_wi t w C R k = 1 ∨ ms_wi t w C R k = 3 ∨ 4 < ms_wi t w C R k from c1), if_neg (by decide)]
          simp only [l19, l20, l21, l22, cond_true, f52, d52, hg, hin, hcn]
          rw [if_neg (show ¬ ms_b01 true = 0 by decide)]
          simp only [f55, d55, u3w, f54, g54, f53, g53, ni_1]
          exact g1
        | false =>
          have hc : ¬ (ms_rf (ms_wi t w C R k) ∧ ms_gg t w C R B S k = true) := fun z => by rw [hg] at z; exact absurd z.2 (by decide)
          cases hf : ms_wat w k C 0 (-1) with
          | none =>
            obtain ⟨p', q', g1, g2⟩ := upd (v := -1) (u := -1) (by rw [nosv hc, hf]; rfl) (by rw [noto hc, hf])
            refine ⟨p', q', ?_, g2⟩
            refine EV_bk (k := 400) ?_
            rw [bk_178_58]
            simp only [l1, l18, cond_true, f45, f51, hD45, hB, hin, hcn, d51]
            rw [if_pos (hblt (by omega)), em_isRefresh (k := ms_wi t w C R k) (ms_wish_lt _ _ _ _ _)]
            simp only [ev_bi]
            rw [if_pos (show ms_wi t w C R k = 1 ∨ ms_wi t w C R k = 3 ∨ 4 < ms_wi t w C R k from c1), if_neg (by decide)]
            simp only [l19, l20, l21, l22, cond_true, f52, d52, hg, hin, hcn]
            rw [if_pos (show ms_b01 false = 0 from rfl)]
            simp only [hfirst, hf, show ms_en none = -1 from rfl, l20, l21, cond_true, u3w, f54, g54, f53, g53, u1s, ni_1]
            rw [if_pos trivial]
            exact g1
          | some f9 =>
            have hlt := ms_wat_lt hf
            obtain ⟨p', q', g1, g2⟩ := upd (v := Int32.ofNat f9) (u := w (375 + 6 * f9 + 1)) (by rw [nosv hc, hf]; rfl) (by rw [noto hc, hf])
            refine ⟨p', q', ?_, g2⟩
            refine EV_bk (k := 400) ?_
            rw [bk_178_58]
            simp only [l1, l18, cond_true, f45, f51, hD45, hB, hin, hcn, d51]
            rw [if_pos (hblt (by omega)), em_isRefresh (k := ms_wi t w C R k) (ms_wish_lt _ _ _ _ _)]
            simp only [ev_bi]
            rw [if_pos (show ms_wi t w C R k = 1 ∨ ms_wi t w C R k = 3 ∨ 4 < ms_wi t w C R k from c1), if_neg (by decide)]
            simp only [l19, l20, l21, l22, cond_true, f52, d52, hg, hin, hcn]
            rw [if_pos (show ms_b01 false = 0 from rfl)]
            simp only [hfirst, hf, show ms_en (some f9) = Int32.ofNat f9 from rfl, l20, l21, cond_true, u3w, f54, g54, f53, g53, u1s, ni_1]
            rw [if_neg (ms_en_ne (by omega)), em_ofRequest hl (x := 1) (w := 1) (q := f9) rfl (by omega)]
            simp only [f46, hD46, f53, g53]
            exact g1
      · have hc : ¬ (ms_rf (ms_wi t w C R k) ∧ ms_gg t w C R B S k = true) := fun z => c1 z.1
        cases hf : ms_wat w k C 0 (-1) with
        | none =>
          obtain ⟨p', q', g1, g2⟩ := upd (v := -1) (u := -1) (by rw [nosv hc, hf]; rfl) (by rw [noto hc, hf])
          refine ⟨p', q', ?_, g2⟩
          refine EV_bk (k := 400) ?_
          rw [bk_178_58]
          simp only [l1, l18, cond_true, f45, f51, hD45, hB, hin, hcn, d51]
          rw [if_pos (hblt (by omega)), em_isRefresh (k := ms_wi t w C R k) (ms_wish_lt _ _ _ _ _)]
          simp only [ev_bi]
          rw [if_neg (show ¬ (ms_wi t w C R k = 1 ∨ ms_wi t w C R k = 3 ∨ 4 < ms_wi t w C R k) from c1), if_pos rfl]
          simp only [hfirst, hf, show ms_en none = -1 from rfl, l19, l20, l21, l22, cond_true, u3w, f54, g54, f53, g53, u1s, ni_1]
          rw [if_pos trivial]
          exact g1
        | some f9 =>
          have hlt := ms_wat_lt hf
          obtain ⟨p', q', g1, g2⟩ := upd (v := Int32.ofNat f9) (u := w (375 + 6 * f9 + 1)) (by rw [nosv hc, hf]; rfl) (by rw [noto hc, hf])
          refine ⟨p', q', ?_, g2⟩
          refine EV_bk (k := 400) ?_
          rw [bk_178_58]
          simp only [l1, l18, cond_true, f45, f51, hD45, hB, hin, hcn, d51]
          rw [if_pos (hblt (by omega)), em_isRefresh (k := ms_wi t w C R k) (ms_wish_lt _ _ _ _ _)]
          simp only [ev_bi]
          rw [if_neg (show ¬ (ms_wi t w C R k = 1 ∨ ms_wi t w C R k = 3 ∨ 4 < ms_wi t w C R k) from c1), if_pos rfl]
          simp only [hfirst, hf, show ms_en (some f9) = Int32.ofNat f9 from rfl, l19, l20, l21, l22, cond_true, u3w, f54, g54, f53, g53, u1s, ni_1]
          rw [if_neg (ms_en_ne (by omega)), em_ofRequest hl (x := 1) (w := 1) (q := f9) rfl (by omega)]
          simp only [f46, hD46, f53, g53]
          exact g1
  -- the middle loop
  have mid : ∀ (D : Nat → Nat → Nat → Int32), D 45 0 = t → D 46 0 = w → ∀ j k (f g : Nat → Int32), k + j = B → (∀ b, b < k → f b = Int32.ofNat (ms_wk t w R b) ∧ g b = Int32.ofNat (ms_wi t w C R b)) →
      ∃ d', EV (178, 14, [ev_R 44 0, ev_I (Int32.ofNat k)], [], 0, 0) (n, lk, ev_w3 (ev_w3 D 55 0 f) 51 0 g, o) = some (.inl none, (n, lk, d', o)) ∧ d' 46 0 = w ∧ (∀ r, r ≠ 46 → r ≠ 51 → r ≠ 52 → r ≠ 53 → r ≠ 54 → r ≠ 55 → d' r = D r) ∧
        ∀ b, b < B → d' 55 0 b = Int32.ofNat (ms_wk t w R b) ∧ d' 51 0 b = Int32.ofNat (ms_wi t w C R b) ∧ d' 52 0 b = ms_b01 (ms_gg t w C R B S b) ∧ d' 54 0 b = ms_en (ms_sv t w C R B S b) ∧ d' 53 0 b = ms_to t w C R B S b := by
    intro D hD45 hD46 j
    have f45 : ∀ f g, ev_w3 (ev_w3 D 55 0 f) 51 0 g 45 = D 45 := fun f g => by rw [w3n (by omega), w3n (by omega)]
    have f46 : ∀ f g, ev_w3 (ev_w3 D 55 0 f) 51 0 g 46 = D 46 := fun f g => by rw [w3n (by omega), w3n (by omega)]
    have f51 : ∀ f g, ev_w3 (ev_w3 D 55 0 f) 51 0 g 51 0 = g := fun f g => w3s _ _ _ _
    have f55 : ∀ f g, ev_w3 (ev_w3 D 55 0 f) 51 0 g 55 0 = f := fun f g => by rw [w3n (by omega), w3s]
    have g55 : ∀ f g f', ev_w3 (ev_w3 (ev_w3 D 55 0 f) 51 0 g) 55 0 f' = ev_w3 (ev_w3 D 55 0 f') 51 0 g := fun f g f' => by rw [w3c (by omega), w3w]
    have g51 : ∀ f g g', ev_w3 (ev_w3 (ev_w3 D 55 0 f) 51 0 g) 51 0 g' = ev_w3 (ev_w3 D 55 0 f) 51 0 g' := fun f g g' => w3w _ _ _ _ _
    induction j with
    | zero =>
      intro k f g hk hfg
      have hkB : k = B := by omega
      subst hkB
      have hP : ms_P (ev_w3 (ev_w3 D 55 0 f) 51 0 g) k (ms_wk t w R) (ms_wi t w C R) := fun b hb => by
        rw [f55, f51]
        exact ⟨(hfg b hb).1, (hfg b hb).2, ms_wk_lt h16, ms_wish_lt _ _ _ _ _⟩
      obtain ⟨h, g1, g2⟩ := em_grants (n := n) (o := o) (lk := lk) (d := ev_w3 (ev_w3 D 55 0 f) 51 0 g) hl (B := k) (S := S) (by rw [f45, hD45]; exact hB) h4 (by rw [f46, hD46]; exact hw0) hS4 hP
      rw [f45, f46, hD45, hD46] at g2
      have e0 : ev_w3 (ev_w3 (ev_w3 (ev_w3 (ev_w3 D 55 0 f) 51 0 g) 52 0 h) 54 0 (ev_w3 (ev_w3 (ev_w3 D 55 0 f) 51 0 g) 52 0 h 54 0)) 53 0 (ev_w3 (ev_w3 (ev_w3 D 55 0 f) 51 0 g) 52 0 h 53 0) = ev_w3 (ev_w3 (ev_w3 D 55 0 f) 51 0 g) 52 0 h := by
        rw [w3e, w3e]
      obtain ⟨p', q', k1, k2⟩ := last (ev_w3 (ev_w3 (ev_w3 D 55 0 f) 51 0 g) 52 0 h) (by rw [w3n (by omega), f45]; exact hD45) (by rw [w3n (by omega), f46]; exact hD46)
        (fun b hb => ⟨by rw [w3n (by omega), f55]; exact (hfg b hb).1, by rw [w3n (by omega), f51]; exact (hfg b hb).2, by rw [w3s]; exact g2 b hb⟩)
        k 0 (ev_w3 (ev_w3 (ev_w3 D 55 0 f) 51 0 g) 52 0 h 54 0) (ev_w3 (ev_w3 (ev_w3 D 55 0 f) 51 0 g) 52 0 h 53 0) (by omega) (fun b hb => absurd hb (Nat.not_lt_zero b))
      rw [e0] at k1
      refine ⟨ev_w3 (ev_w3 (ev_w3 (ev_w3 (ev_w3 D 55 0 f) 51 0 g) 52 0 h) 54 0 p') 53 0 q', EV_bk (k := 400) ?_, ?_, fun r a1 a2 a3 a4 a5 a6 => ?_, fun b hb => ⟨?_, ?_, ?_, ?_, ?_⟩⟩
      · rw [bk_178_14]
        simp only [l1, cond_true, f45, hD45, hB]
        rw [if_neg (hbge (by omega) (by omega)), g1]
        simp only [ev_bv]
        exact k1
      · rw [w3n (by omega), w3n (by omega), w3n (by omega), f46]; exact hD46
      · rw [w3n a4, w3n a5, w3n a3, w3n a2, w3n a6]
      · rw [w3n (by omega), w3n (by omega), w3n (by omega), f55]; exact (hfg b hb).1
      · rw [w3n (by omega), w3n (by omega), w3n (by omega), f51]; exact (hfg b hb).2
      · rw [w3n (by omega), w3n (by omega), w3s]; exact g2 b hb
      · rw [w3n (by omega), w3s]; exact (k2 b hb).1
      · rw [w3s]; exact (k2 b hb).2
    | succ j ih =>
      intro k f g hk hfg
      have hin := ni_in (n := k) (N := 4) (by omega) (by omega)
      have hcn := ni_c (n := k) (by omega)
      obtain ⟨d', g1, g2⟩ := ih (k + 1) (ev_u1 f k (Int32.ofNat (ms_wk t w R k))) (ev_u1 g k (Int32.ofNat (ms_wi t w C R k))) (by omega) (fun b hb => by
        by_cases e : b = k
        · rw [e, u1s, u1s]; exact ⟨rfl, rfl⟩
        · rw [u1n e, u1n e]; exact hfg b (by omega))
      refine ⟨d', EV_bk (k := 400) ?_, g2⟩
      have e1 := em_weakestOf (n := n) (lk := lk) (o := o) (d := ev_w3 (ev_w3 D 55 0 f) 51 0 g) hl (b := k) (by omega) (R := R) (by rw [f45, hD45]; exact hR) h1R h16
      rw [f45, f46, hD45, hD46] at e1
      have e2 := em_wishOf (n := n) (lk := lk) (o := o) (d := ev_w3 (ev_w3 D 55 0 (ev_u1 f k (Int32.ofNat (ms_weak t w k R)))) 51 0 g) hl (C := C) (b := k) (k := ms_weak t w k R) (by rw [f46, hD46]; exact hw9) h40 (by omega) (by rw [f55, u1s]) (ms_wk_lt h16)
      rw [f45, f46, hD45, hD46] at e2
      rw [bk_178_14]
      simp only [l1, l22, cond_true, f45, hD45, hB]
      rw [if_pos (hblt (by omega)), e1]
      simp only [ev_bi, hin, hcn, l18, cond_true, u3w, f55, g55]
      rw [e2]
      simp only [cond_true, u3w, f51, g51, ni_1]
      exact g1
  -- together
  have w1 : ms_asked (d 46 0) C 9 = Int32.ofNat C := by rw [ms_asked_lo _ (by omega) (by omega)]; exact hC
  have s1 := em_askedComes (n := n) (lk := lk) (d := d) (o := o) hl hC h40
  have s2 := em_debtsCome (n := n) (lk := lk) (d := ev_w3 d 46 0 (ms_asked (d 46 0) C)) (o := o) hl (B := B) (by rw [w3n (by omega), ht]; exact hB) h4 (by rw [w3n (by omega), ht]; exact h3)
  rw [w3n (by omega), w3s, w3w, ht] at s2
  have s3 := em_trades (n := n) (lk := lk) (d := ev_w3 d 46 0 (ms_debts t (ms_asked (d 46 0) C) B)) (o := o) hl (B := B) (by rw [w3n (by omega), ht]; exact hB) h4
  rw [w3s, w3w] at s3
  have hWx : (if ms_debts t (ms_asked (d 46 0) C) B 7 = 1 then ms_trades (ms_debts t (ms_asked (d 46 0) C) B) B B else ms_debts t (ms_asked (d 46 0) C) B) = w := hW
  rw [hWx] at s3
  obtain ⟨d', g1, g2, g3, g4⟩ := mid (ev_w3 d 46 0 w) (by rw [w3n (by omega)]; exact ht) (w3s _ _ _ _) B 0 (ev_w3 d 46 0 w 55 0) (ev_w3 d 46 0 w 51 0) (by omega) (fun b hb => absurd hb (Nat.not_lt_zero b))
  have e0 : ev_w3 (ev_w3 (ev_w3 d 46 0 w) 55 0 (ev_w3 d 46 0 w 55 0)) 51 0 (ev_w3 d 46 0 w 51 0) = ev_w3 d 46 0 w := by rw [w3e, w3e]
  rw [e0] at g1
  refine ⟨d', EV_bk (k := 400) ?_, g2, fun r a1 a2 a3 a4 a5 a6 => by rw [g3 r a1 a2 a3 a4 a5 a6, w3n a1], g4⟩
  rw [bk_178_0, s1]
  simp only [ev_bv]
  rw [s2]
  simp only []
  rw [s3]
  exact g1
end EM7
/-! WHAT THE METHODS DO, 8: the reference acts -/
def ms_serve (w : Nat → Int32) (b q r : Nat) : Nat → Int32 :=
  let w1 := ev_u1 w (375 + 6 * q + 3) 2
  let w2 := ev_u1 w1 (375 + 6 * q + 4) (w1 8)
  let w3 := ev_u1 w2 (19 + 9 * b + 2) (w2 (19 + 9 * b + 2) + 1)
  let w4 := ev_u1 w3 (19 + 9 * b + 1) (w3 (19 + 9 * b + 1) + w3 4)
  let w5 := ev_u1 w4 (55 + 5 * (16 * b + r) + 3) (w4 (55 + 5 * (16 * b + r) + 3) + 1)
  let w6 := ev_u1 w5 16 (w5 16 + 1)
  let w7 := ev_u1 w6 17 (w6 17 + (w 8 - w (375 + 6 * q + 2)))
  ev_u1 w7 18 (if w 8 - w (375 + 6 * q + 2) ≤ w7 18 then w7 18 else w 8 - w (375 + 6 * q + 2))
def ms_refresh (w : Nat → Int32) (b r : Nat) (u : Prop) [Decidable u] : Nat → Int32 :=
  let w1 := ev_u1 w (19 + 9 * b + 0) (w (19 + 9 * b + 0) + -1)
  let w2 := ev_u1 w1 (19 + 9 * b + 3) (w1 (19 + 9 * b + 3) + 1)
  let w3 := ev_u1 w2 (55 + 5 * (16 * b + r) + 2) (w2 (55 + 5 * (16 * b + r) + 2) + 1)
  let w4 := ev_u1 w3 12 (w3 12 + 1)
  ev_u1 w4 13 (w4 13 + (if u then 1 else 0))
def ms_age1 (w : Nat → Int32) (c : Nat) : Nat → Int32 := ev_u1 w (55 + 5 * c + 0) (w (55 + 5 * c + 0) + 1)
def ms_lose (w : Nat → Int32) (c : Nat) : Nat → Int32 :=
  let w2 := ev_u1 w (55 + 5 * c + 1) 1
  let w3 := ev_u1 w2 (55 + 5 * c + 4) (w2 (55 + 5 * c + 4) + 1)
  ev_u1 w3 14 (w3 14 + 1)
def ms_bnd (t w : Nat → Int32) (c : Nat) (hot : Int32) : Int32 := if hot = 0 then ms_cool t w c else ms_half (ms_cool t w c)
def ms_ages (t w : Nat → Int32) (b r : Nat) (to hot : Int32) : Nat → Int32 :=
  if to = Int32.ofNat r then ev_u1 (ev_u1 w (55 + 5 * (16 * b + r) + 0) 0) (55 + 5 * (16 * b + r) + 1) 0
  else if ms_bnd t (ms_age1 w (16 * b + r)) (16 * b + r) hot < ms_age1 w (16 * b + r) (55 + 5 * (16 * b + r) + 0) ∧ ms_age1 w (16 * b + r) (55 + 5 * (16 * b + r) + 1) = 0 then ms_lose (ms_age1 w (16 * b + r)) (16 * b + r)
  else ms_age1 w (16 * b + r)
section EM8
variable {n : Nat} {lk : Nat → Nat → Nat → Bool} {d : Nat → Nat → Nat → Int32} {o : ev_W}
theorem em_serve (hl : LK lk) {b q r : Nat} (hb : b < 4) (hq : q < 40) (hr : r < 16) (hto : d 53 0 b = Int32.ofNat r) : EV (179, 0, [ev_R 44 0, ev_I (Int32.ofNat b), ev_I (Int32.ofNat q)], [], 0, 0) (n, lk, d, o) = some (.inl none, (n, lk, ev_w3 d 46 0 (ms_serve (d 46 0) b q r), o)) := by
  have l2 : lk 44 0 2 = true := hl _ _ _ rfl (by decide) (by decide)
  have l20 : lk 44 0 20 = true := hl _ _ _ rfl (by decide) (by decide)
  have e53 : ∀ f, ev_w3 d 46 0 f 53 = d 53 := fun f => w3n (by omega)
  refine EV_bk (k := 400) ?_
  rw [bk_179_0, em_ofRequest hl (x := 2) (w := 2) rfl (by omega)]
  simp only [ev_bi, l2, cond_true]
  rw [em_setsRequest hl (x := 3) (w := 3) rfl (by omega)]
  simp only [ev_bv, l2, cond_true]
  rw [em_setsRequest hl (x := 4) (w := 4) rfl (by omega)]
  simp only []
  rw [em_adds hl (x := 2) (w := 2) rfl (by omega)]
  simp only [l2, cond_true]
  rw [em_adds hl (x := 1) (w := 1) rfl (by omega)]
  simp only [l20, l2, cond_true, ni_in (n := b) (N := 4) (by omega) (by omega), ni_c (n := b) (by omega), u3w, w3s, w3w, e53, hto]
  rw [em_addsRow hl (x := 3) (w := 3) rfl (by omega)]
  simp only [l2, cond_true, u3w, w3s, w3w]
  split
  · rename_i h
    exact congrArg (fun z => (some (.inl none, (n, lk, ev_w3 d 46 0 z, o)) : ev_T)) (congrArg (ev_u1 _ 18) (if_pos h)).symm
  · rename_i h
    exact congrArg (fun z => (some (.inl none, (n, lk, ev_w3 d 46 0 z, o)) : ev_T)) (congrArg (ev_u1 _ 18) (if_neg h)).symm
theorem em_refresh (hl : LK lk) {b r k : Nat} (hb : b < 4) (hr : r < 16) (hto : d 53 0 b = Int32.ofNat r) (hwi : d 51 0 b = Int32.ofNat k) (hk : k < 7) : EV (180, 0, [ev_R 44 0, ev_I (Int32.ofNat b)], [], 0, 0) (n, lk, d, o) = some (.inl none, (n, lk, ev_w3 d 46 0 (ms_refresh (d 46 0) b r (k = 1)), o)) := by
  have l2 : lk 44 0 2 = true := hl _ _ _ rfl (by decide) (by decide)
  have l18 : lk 44 0 18 = true := hl _ _ _ rfl (by decide) (by decide)
  have l20 : lk 44 0 20 = true := hl _ _ _ rfl (by decide) (by decide)
  have e53 : ∀ f, ev_w3 d 46 0 f 53 = d 53 := fun f => w3n (by omega)
  have e51 : ∀ f, ev_w3 d 46 0 f 51 = d 51 := fun f => w3n (by omega)
  refine EV_bk (k := 400) ?_
  rw [bk_180_0, em_adds hl (x := 0) (w := 0) rfl (by omega)]
  simp only [ev_bv]
  rw [em_adds hl (x := 3) (w := 3) rfl (by omega)]
  simp only [l20, l18, l2, cond_true, ni_in (n := b) (N := 4) (by omega) (by omega), ni_c (n := b) (by omega), u3w, w3s, w3w, e53, hto]
  rw [em_addsRow hl (x := 2) (w := 2) rfl (by omega)]
  have e1 : (Int32.ofNat k = (1 : Int32)) ↔ k = 1 := ni_eq (b := 1) (by omega) (by omega)
  simp only [l18, l2, cond_true, u3w, w3s, w3w, e51, hwi, e1]
  unfold ms_refresh
  by_cases h : k = 1
  · rw [if_pos h, if_pos h]
  · rw [if_neg h, if_neg h]
theorem em_ages (hl : LK lk) {b r : Nat} (hb : b < 4) (hr : r < 16) : EV (181, 0, [ev_R 44 0, ev_I (Int32.ofNat b), ev_I (Int32.ofNat r)], [], 0, 0) (n, lk, d, o) = some (.inl none, (n, lk, ev_w3 d 46 0 (ms_ages (d 45 0) (d 46 0) b r (d 53 0 b) (d 56 0 b)), o)) := by
  have l2 : lk 44 0 2 = true := hl _ _ _ rfl (by decide) (by decide)
  have l20 : lk 44 0 20 = true := hl _ _ _ rfl (by decide) (by decide)
  have l23 : lk 44 0 23 = true := hl _ _ _ rfl (by decide) (by decide)
  have e45 : ∀ f, ev_w3 d 46 0 f 45 = d 45 := fun f => w3n (by omega)
  have e56 : ∀ f, ev_w3 d 46 0 f 56 = d 56 := fun f => w3n (by omega)
  have hin := ni_in (n := b) (N := 4) (by omega) (by omega)
  have hcn := ni_c (n := b) (by omega)
  refine EV_bk (k := 400) ?_
  rw [bk_181_0]
  simp only [l20, cond_true, hin, hcn]
  unfold ms_ages
  by_cases h1 : d 53 0 b = Int32.ofNat r
  · rw [if_pos h1, if_pos h1, em_setsRow hl (x := 0) (w := 0) rfl (by omega)]
    simp only [ev_bv]
    rw [em_setsRow hl (x := 1) (w := 1) rfl (by omega)]
    simp only [u3w, w3s, w3w]
  · rw [if_neg h1, if_neg h1, em_addsRow hl (x := 0) (w := 0) rfl (by omega)]
    simp only [ev_bv]
    rw [em_ofRow hl (x := 0) (w := 0) rfl (by omega)]
    simp only [ev_bi, l23, cond_true, hin, hcn, u3w, w3s, w3w, e56]
    rw [em_boundOf hl hb hr]
    simp only [e45, w3s]
    have hag : ev_u1 (d 46 0) (55 + 5 * (16 * b + r) + 0) (d 46 0 (55 + 5 * (16 * b + r) + 0) + 1) = ms_age1 (d 46 0) (16 * b + r) := rfl
    rw [hag]
    have hbd : (if d 56 0 b = 0 then ms_cool (d 45 0) (ms_age1 (d 46 0) (16 * b + r)) (16 * b + r) else ms_half (ms_cool (d 45 0) (ms_age1 (d 46 0) (16 * b + r)) (16 * b + r))) = ms_bnd (d 45 0) (ms_age1 (d 46 0) (16 * b + r)) (16 * b + r) (d 56 0 b) := rfl
    rw [hbd]
    by_cases h2 : ms_age1 (d 46 0) (16 * b + r) (55 + 5 * (16 * b + r) + 0) ≤ ms_bnd (d 45 0) (ms_age1 (d 46 0) (16 * b + r)) (16 * b + r) (d 56 0 b)
    · rw [if_pos h2, if_neg (fun z => Int32.not_lt.mpr h2 z.1)]
    · rw [if_neg h2, em_ofRow hl (x := 1) (w := 1) rfl (by omega)]
      simp only [w3s]
      by_cases h3 : ms_age1 (d 46 0) (16 * b + r) (55 + 5 * (16 * b + r) + 1) = 0
      · rw [if_pos h3, if_pos ⟨Int32.not_le.mp h2, h3⟩, em_setsRow hl (x := 1) (w := 1) rfl (by omega)]
        simp only []
        rw [em_addsRow hl (x := 4) (w := 4) rfl (by omega)]
        simp only [l2, cond_true, u3w, w3s, w3w]
        rfl
      · rw [if_neg h3, if_neg (fun z => h3 z.2)]
end EM8
/-! WHAT THE METHODS DO, 9: the reference's tick -/
def ms_one (w : Nat → Int32) (b : Nat) (wi : Nat) (g : Bool) (sv : Option Nat) (to : Int32) : Nat → Int32 :=
  match sv with
  | some q => ms_serve (ev_u1 (ev_u1 w (19 + 9 * b + 6) (Int32.ofNat wi)) (19 + 9 * b + 7) (ms_b01 g)) b q to.toNatClampNeg
  | none => if to = -1 then ev_u1 (ev_u1 w (19 + 9 * b + 6) (Int32.ofNat wi)) (19 + 9 * b + 7) (ms_b01 g) else ms_refresh (ev_u1 (ev_u1 w (19 + 9 * b + 6) (Int32.ofNat wi)) (19 + 9 * b + 7) (ms_b01 g)) b to.toNatClampNeg (wi = 1)
def ms_acts (w : Nat → Int32) (wi : Nat → Nat) (g : Nat → Bool) (sv : Nat → Option Nat) (to : Nat → Int32) : Nat → Nat → Int32
  | 0 => w
  | b + 1 => ms_one (ms_acts w wi g sv to b) b (wi b) (g b) (sv b) (to b)
/-- which banks were hot as they acted -/
def ms_was (w : Nat → Int32) (wi : Nat → Nat) (g : Nat → Bool) (sv : Nat → Option Nat) (to : Nat → Int32) (b : Nat) : Int32 := if ms_hot (ms_acts w wi g sv to b) b then 1 else 0
def ms_rows (t w : Nat → Int32) (b : Nat) (to hot : Int32) : Nat → Nat → Int32
  | 0 => w
  | r + 1 => ms_ages t (ms_rows t w b to hot r) b r to hot
def ms_cool1 (w : Nat → Int32) (b : Nat) (sv : Option Nat) : Nat → Int32 := if sv = none ∧ 0 < w (19 + 9 * b + 1) then ev_u1 w (19 + 9 * b + 1) (w (19 + 9 * b + 1) + -1) else w
def ms_grow (t w : Nat → Int32) (R : Nat) (to hot : Nat → Int32) (sv : Nat → Option Nat) : Nat → Nat → Int32
  | 0 => w
  | b + 1 => ms_cool1 (ms_rows t (ms_grow t w R to hot sv b) b (to b) (hot b) R) b (sv b)
def ms_end (w : Nat → Int32) : Nat → Int32 := ev_u1 w 8 (w 8 + 1)
def ms_tick (t w : Nat → Int32) (C R B S : Nat) : Nat → Int32 :=
  ms_end (ms_grow t (ms_acts (ms_pre t w C B) (ms_wi t (ms_pre t w C B) C R) (ms_gg t (ms_pre t w C B) C R B S) (ms_sv t (ms_pre t w C B) C R B S) (ms_to t (ms_pre t w C B) C R B S) B) R
    (ms_to t (ms_pre t w C B) C R B S) (ms_was (ms_pre t w C B) (ms_wi t (ms_pre t w C B) C R) (ms_gg t (ms_pre t w C B) C R B S) (ms_sv t (ms_pre t w C B) C R B S) (ms_to t (ms_pre t w C B) C R B S)) (ms_sv t (ms_pre t w C B) C R B S) B)
section EM9
variable {n : Nat} {lk : Nat → Nat → Nat → Bool} {d : Nat → Nat → Nat → Int32} {o : ev_W}
/-- the rows and the banks grow -/
theorem em_grow (hl : LK lk) {B R : Nat} (hB : d 45 0 0 = Int32.ofNat B) (hR : d 45 0 1 = Int32.ofNat R) (h4 : B ≤ 4) (h16 : R ≤ 16) {sv : Nat → Option Nat} (hsv : ∀ b, b < B → d 54 0 b = ms_en (sv b) ∧ ∀ q, sv b = some q → q < 40) :
    EV (182, 108, [ev_R 44 0, ev_I (Int32.ofNat 0)], [], 0, 0) (n, lk, d, o) = some (.inl none, (n, lk, ev_w3 d 46 0 (ms_end (ms_grow (d 45 0) (d 46 0) R (d 53 0) (d 56 0) sv B)), o)) := by
  have l1 : lk 44 0 1 = true := hl _ _ _ rfl (by decide) (by decide)
  have l2 : lk 44 0 2 = true := hl _ _ _ rfl (by decide) (by decide)
  have l21 : lk 44 0 21 = true := hl _ _ _ rfl (by decide) (by decide)
  have e45 : ∀ f, ev_w3 d 46 0 f 45 = d 45 := fun f => w3n (by omega)
  have e53 : ∀ f, ev_w3 d 46 0 f 53 = d 53 := fun f => w3n (by omega)
  have e54 : ∀ f, ev_w3 d 46 0 f 54 = d 54 := fun f => w3n (by omega)
  have e56 : ∀ f, ev_w3 d 46 0 f 56 = d 56 := fun f => w3n (by omega)
  have rows : ∀ {b : Nat} {w : Nat → Int32} {z : ev_O × ev_M}, b < B → EV (182, 120, [ev_R 44 0, ev_I (Int32.ofNat b), ev_I (Int32.ofNat R)], [], 0, 0) (n, lk, ev_w3 d 46 0 (ms_rows (d 45 0) w b (d 53 0 b) (d 56 0 b) R), o) = some z →
      ∀ j r, r + j = R → EV (182, 120, [ev_R 44 0, ev_I (Int32.ofNat b), ev_I (Int32.ofNat r)], [], 0, 0) (n, lk, ev_w3 d 46 0 (ms_rows (d 45 0) w b (d 53 0 b) (d 56 0 b) r), o) = some z := by
    intro b w z hb hz j
    induction j with
    | zero => intro r hr; rw [show r = R by omega]; exact hz
    | succ j ih =>
      intro r hr
      have e := ih (r + 1) (by omega)
      refine EV_bk (k := 400) ?_
      rw [bk_182_120]
      simp only [l1, cond_true, e45, hR]
      rw [if_pos ((ni_lt (by omega) (by omega)).mpr (by omega)), em_ages hl (by omega) (by omega)]
      simp only [ev_bv, e45, w3s, e53, e56, w3w, ni_1]
      exact e
  have loop : ∀ j b, b + j = B → EV (182, 108, [ev_R 44 0, ev_I (Int32.ofNat b)], [], 0, 0) (n, lk, ev_w3 d 46 0 (ms_grow (d 45 0) (d 46 0) R (d 53 0) (d 56 0) sv b), o) = some (.inl none, (n, lk, ev_w3 d 46 0 (ms_end (ms_grow (d 45 0) (d 46 0) R (d 53 0) (d 56 0) sv B)), o)) := by
    intro j
    induction j with
    | zero =>
      intro b hb
      refine EV_bk (k := 400) ?_
      rw [bk_182_108]
      simp only [l1, l2, cond_true, e45, hB]
      rw [if_neg (fun z => by have := (ni_lt (by omega) (by omega)).mp z; omega)]
      simp only [u3w, w3s, w3w]
      rw [show b = B by omega]
      rfl
    | succ j ih =>
      intro b hb
      have e := ih (b + 1) (by omega)
      obtain ⟨s1, s2⟩ := hsv b (by omega)
      refine EV_bk (k := 400) ?_
      rw [bk_182_108]
      simp only [l1, l2, cond_true, e45, hB]
      rw [if_pos ((ni_lt (by omega) (by omega)).mpr (by omega))]
      refine rows (b := b) (w := ms_grow (d 45 0) (d 46 0) R (d 53 0) (d 56 0) sv b) (by omega) ?_ R 0 (by omega)
      refine EV_bk (k := 400) ?_
      rw [bk_182_120]
      simp only [l1, l21, cond_true, e45, hR, e54, s1, ni_in (n := b) (N := 4) (by omega) (by omega), ni_c (n := b) (by omega)]
      rw [if_neg (fun z => by have := (ni_lt (by omega) (by omega)).mp z; omega)]
      generalize hw : ms_rows (d 45 0) (ms_grow (d 45 0) (d 46 0) R (d 53 0) (d 56 0) sv b) b (d 53 0 b) (d 56 0 b) R = w
      have hst : ms_grow (d 45 0) (d 46 0) R (d 53 0) (d 56 0) sv (b + 1) = ms_cool1 w b (sv b) := by rw [← hw]; rfl
      rw [hst] at e
      cases hq : sv b with
      | some q =>
        have := s2 q hq
        rw [if_neg (show ¬ ms_en (some q) = -1 from ms_en_ne (by omega)), ni_1]
        rw [hq, show ms_cool1 w b (some q) = w from if_neg (fun z => nomatch z.1)] at e
        exact e
      | none =>
        rw [if_pos (show ms_en none = -1 from rfl), em_of hl (x := 1) (w := 1) rfl (by omega)]
        simp only [ev_bi, w3s, ni_1]
        rw [hq] at e
        by_cases h0 : w (19 + 9 * b + 1) ≤ 0
        · rw [if_pos h0]
          rw [show ms_cool1 w b none = w from if_neg (fun z => Int32.not_lt.mpr h0 z.2)] at e
          exact e
        · rw [if_neg h0, em_adds hl (x := 1) (w := 1) rfl (by omega)]
          simp only [ev_bv, u3w, w3s, w3w]
          rw [show ms_cool1 w b none = ev_u1 w (19 + 9 * b + 1) (w (19 + 9 * b + 1) + -1) from if_pos ⟨rfl, Int32.not_le.mp h0⟩] at e
          exact e
  have e := loop B 0 (by omega)
  rw [show ms_grow (d 45 0) (d 46 0) R (d 53 0) (d 56 0) sv 0 = d 46 0 from rfl, w3e] at e
  exact e
end EM9
/-! WHAT THE METHODS DO, 10: the reference passes a tick -/
theorem ms_acts_lo {w : Nat → Int32} {b q r k : Nat} (hk : k < 11) : ms_serve w b q r k = w k := by
  unfold ms_serve
  rw [u1n (by omega), u1n (by omega), u1n (by omega), u1n (by omega), u1n (by omega), u1n (by omega), u1n (by omega), u1n (by omega)]
theorem ms_pre_q1 {t w : Nat → Int32} {C B q k : Nat} (hk : k < 3) (h4 : B ≤ 4) : ms_pre t w C B (375 + 6 * q + k) = w (375 + 6 * q + k) := by
  have ha : ∀ c, ms_asked w c (375 + 6 * q + k) = w (375 + 6 * q + k) := by
    intro c
    induction c with
    | zero => rfl
    | succ c ih =>
      unfold ms_asked
      split
      · unfold ms_come
        rw [u1n (by omega), u1n (by omega), u1n (by omega)]
        exact ih
      · exact ih
  have hd : ∀ v b, b ≤ 4 → ms_dl v b (375 + 6 * q + k) = v (375 + 6 * q + k) := by
    intro v b
    induction b with
    | zero => intro _; rfl
    | succ b ih =>
      intro hb
      unfold ms_dl
      rw [u1n (by omega), u1n (by omega)]
      exact ih (by omega)
  have hd2 : ∀ v, ms_debts t v B (375 + 6 * q + k) = v (375 + 6 * q + k) := by
    intro v
    unfold ms_debts
    split
    · rfl
    · split
      · exact hd v B h4
      · rfl
  have ht : ∀ v b, b ≤ 4 → ms_trades v B b (375 + 6 * q + k) = v (375 + 6 * q + k) := by
    intro v b
    induction b with
    | zero => intro _; rfl
    | succ b ih =>
      intro hb
      unfold ms_trades
      split
      · cases hk9 : ms_tk (ms_trades v B b) B with
        | none => exact ih (by omega)
        | some j =>
          have hj := ms_tk_lt hk9
          show ms_moves (ms_trades v B b) b j (375 + 6 * q + k) = _
          unfold ms_moves
          rw [u1n (by omega), u1n (by omega), u1n (by omega), u1n (by omega), u1n (by omega)]
          exact ih (by omega)
      · exact ih (by omega)
  unfold ms_pre
  split
  · rw [ht _ B h4, hd2, ha]
  · rw [hd2, ha]
section EM10
variable {n : Nat} {lk : Nat → Nat → Nat → Bool} {d : Nat → Nat → Nat → Int32} {o : ev_W}
theorem em_acts (hl : LK lk) {B R : Nat} {wi : Nat → Nat} {g : Nat → Bool} {sv : Nat → Option Nat} (hB : d 45 0 0 = Int32.ofNat B) (hR : d 45 0 1 = Int32.ofNat R) (h4 : B ≤ 4) (h16 : R ≤ 16)
    (hD : ∀ b, b < B → d 51 0 b = Int32.ofNat (wi b) ∧ wi b < 7 ∧ d 52 0 b = ms_b01 (g b) ∧ d 54 0 b = ms_en (sv b) ∧ (∀ q, sv b = some q → q < 40 ∧ ∃ r, r < 16 ∧ d 53 0 b = Int32.ofNat r) ∧ (d 53 0 b = -1 ∨ ∃ r, r < 16 ∧ d 53 0 b = Int32.ofNat r)) :
    ∃ h, EV (182, 6, [ev_R 44 0, ev_I (Int32.ofNat 0)], [], 0, 0) (n, lk, d, o) = some (.inl none, (n, lk, ev_w3 (ev_w3 d 46 0 (ms_end (ms_grow (d 45 0) (ms_acts (d 46 0) wi g sv (d 53 0) B) R (d 53 0) (ms_was (d 46 0) wi g sv (d 53 0)) sv B))) 56 0 h, o)) := by
  have l1 : lk 44 0 1 = true := hl _ _ _ rfl (by decide) (by decide)
  have l18 : lk 44 0 18 = true := hl _ _ _ rfl (by decide) (by decide)
  have l19 : lk 44 0 19 = true := hl _ _ _ rfl (by decide) (by decide)
  have l20 : lk 44 0 20 = true := hl _ _ _ rfl (by decide) (by decide)
  have l21 : lk 44 0 21 = true := hl _ _ _ rfl (by decide) (by decide)
  have l23 : lk 44 0 23 = true := hl _ _ _ rfl (by decide) (by decide)
  have f45 : ∀ w h, ev_w3 (ev_w3 d 46 0 w) 56 0 h 45 = d 45 := fun w h => by rw [w3n (by omega), w3n (by omega)]
  have f46 : ∀ w h, ev_w3 (ev_w3 d 46 0 w) 56 0 h 46 0 = w := fun w h => by rw [w3n (by omega), w3s]
  have f56 : ∀ w h, ev_w3 (ev_w3 d 46 0 w) 56 0 h 56 0 = h := fun w h => w3s _ _ _ _
  have f51 : ∀ w h, ev_w3 (ev_w3 d 46 0 w) 56 0 h 51 = d 51 := fun w h => by rw [w3n (by omega), w3n (by omega)]
  have f52 : ∀ w h, ev_w3 (ev_w3 d 46 0 w) 56 0 h 52 = d 52 := fun w h => by rw [w3n (by omega), w3n (by omega)]
  have f53 : ∀ w h, ev_w3 (ev_w3 d 46 0 w) 56 0 h 53 = d 53 := fun w h => by rw [w3n (by omega), w3n (by omega)]
  have f54 : ∀ w h, ev_w3 (ev_w3 d 46 0 w) 56 0 h 54 = d 54 := fun w h => by rw [w3n (by omega), w3n (by omega)]
  have g46 : ∀ w h w', ev_w3 (ev_w3 (ev_w3 d 46 0 w) 56 0 h) 46 0 w' = ev_w3 (ev_w3 d 46 0 w') 56 0 h := fun w h w' => by rw [w3c (by omega), w3w]
  have g56 : ∀ w h h', ev_w3 (ev_w3 (ev_w3 d 46 0 w) 56 0 h) 56 0 h' = ev_w3 (ev_w3 d 46 0 w) 56 0 h' := fun w h h' => w3w _ _ _ _ _
  have loop : ∀ j b (h : Nat → Int32), b + j = B → (∀ c, c < b → h c = ms_was (d 46 0) wi g sv (d 53 0) c) → ∃ h', EV (182, 6, [ev_R 44 0, ev_I (Int32.ofNat b)], [], 0, 0) (n, lk, ev_w3 (ev_w3 d 46 0 (ms_acts (d 46 0) wi g sv (d 53 0) b)) 56 0 h, o) = some (.inl none, (n, lk, ev_w3 (ev_w3 d 46 0 (ms_end (ms_grow (d 45 0) (ms_acts (d 46 0) wi g sv (d 53 0) B) R (d 53 0) h' sv B))) 56 0 h', o)) ∧ ∀ c, c < B → h' c = ms_was (d 46 0) wi g sv (d 53 0) c := by
    intro j
    induction j with
    | zero =>
      intro b h hb hh
      have hbB : b = B := by omega
      subst hbB
      refine ⟨h, ?_, hh⟩
      refine EV_bk (k := 400) ?_
      rw [bk_182_6]
      simp only [l1, cond_true, f45, hB]
      rw [if_neg (fun z => by have := (ni_lt (by omega) (by omega)).mp z; omega)]
      have e := em_grow (n := n) (lk := lk) (o := o) (d := ev_w3 (ev_w3 d 46 0 (ms_acts (d 46 0) wi g sv (d 53 0) b)) 56 0 h) hl (B := b) (R := R) (by rw [f45]; exact hB) (by rw [f45]; exact hR) h4 h16 (sv := sv) (fun c hc => by
        rw [f54]
        exact ⟨(hD c hc).2.2.2.1, fun q hq => ((hD c hc).2.2.2.2.1 q hq).1⟩)
      rw [f45, f46, f53, f56, g46] at e
      exact e
    | succ j ih =>
      intro b h hb hh
      obtain ⟨d51, hw7, d52, d54, hsv, hto⟩ := hD b (by omega)
      have hin := ni_in (n := b) (N := 4) (by omega) (by omega)
      have hcn := ni_c (n := b) (by omega)
      generalize hw : ms_acts (d 46 0) wi g sv (d 53 0) b = w
      have hst : ms_acts (d 46 0) wi g sv (d 53 0) (b + 1) = ms_one w b (wi b) (g b) (sv b) (d 53 0 b) := by rw [← hw]; rfl
      have hws : ms_was (d 46 0) wi g sv (d 53 0) b = if ms_hot w b then 1 else 0 := by rw [← hw]; rfl
      obtain ⟨h', k1, k2⟩ := ih (b + 1) (ev_u1 h b (if ms_hot w b then 1 else 0)) (by omega) (fun c hc => by
        by_cases e : c = b
        · rw [e, u1s]; exact hws.symm
        · rw [u1n e]; exact hh c (by omega))
      rw [hst] at k1
      refine ⟨h', ?_, k2⟩
      refine EV_bk (k := 400) ?_
      have z01 : (if ms_hot w b then (1 : Int32) else 0) &&& 1 = if ms_hot w b then 1 else 0 := by split <;> rfl
      have e165 := em_isHot (n := n) (lk := lk) (o := o) (d := ev_w3 (ev_w3 d 46 0 w) 56 0 h) hl (b := b) (by omega)
      rw [f46] at e165
      rw [bk_182_6]
      simp only [l1, l23, cond_true, f45, hB]
      rw [if_pos ((ni_lt (by omega) (by omega)).mpr (by omega)), e165]
      simp only [ev_bi, hin, hcn, l18, cond_true, f51, d51, z01, u3w, f56, g56]
      rw [em_sets hl (x := 6) (w := 6) rfl (by omega)]
      simp only [ev_bv, l19, cond_true, u3w, f46, g46, f52, d52]
      cases hg : g b with
      | false =>
        rw [if_pos (show ms_b01 false = 0 from rfl)]
        rw [hg] at k1
        rw [em_sets hl (x := 7) (w := 7) rfl (by omega)]
        simp only [l20, l21, cond_true, hin, hcn, u3w, f46, g46, f54, f53, d54, ni_1]
        cases hq : sv b with
        | some q =>
          obtain ⟨hq40, r, hr, hr2⟩ := hsv q hq
          rw [if_neg (show ¬ ms_en (some q) = -1 from ms_en_ne (by omega)), show ms_en (some q) = Int32.ofNat q from rfl, em_serve hl (by omega) hq40 hr (by rw [f53]; exact hr2)]
          simp only [ev_bv, f46, g46]
          rw [hq, hr2] at k1
          have e1 : ms_one w b (wi b) false (some q) (Int32.ofNat r) = ms_serve (ev_u1 (ev_u1 w (19 + 9 * b + 6) (Int32.ofNat (wi b))) (19 + 9 * b + 7) (ms_b01 false)) b q r := by
            unfold ms_one
            rw [ni_c (by omega)]
          rw [e1] at k1
          exact k1
        | none =>
          rw [if_pos (show ms_en none = -1 from rfl)]
          rw [hq] at k1
          by_cases ht : d 53 0 b = -1
          · rw [if_pos ht]
            rw [show ms_one w b (wi b) false none (d 53 0 b) = ev_u1 (ev_u1 w (19 + 9 * b + 6) (Int32.ofNat (wi b))) (19 + 9 * b + 7) (ms_b01 false) from if_pos ht] at k1
            exact k1
          · obtain ⟨r, hr, hr2⟩ : ∃ r, r < 16 ∧ d 53 0 b = Int32.ofNat r := hto.resolve_left ht
            rw [if_neg ht, em_refresh hl (by omega) hr (by rw [f53]; exact hr2) (by rw [f51]; exact d51) hw7]
            simp only [ev_bv, f46, g46]
            have e1 : ms_one w b (wi b) false none (d 53 0 b) = ms_refresh (ev_u1 (ev_u1 w (19 + 9 * b + 6) (Int32.ofNat (wi b))) (19 + 9 * b + 7) (ms_b01 false)) b r (wi b = 1) := by
              unfold ms_one
              simp only []
              rw [if_neg ht, hr2, ni_c (by omega)]
            rw [e1] at k1
            exact k1
      | true =>
        rw [if_neg (show ¬ ms_b01 true = 0 by decide)]
        rw [hg] at k1
        rw [em_sets hl (x := 7) (w := 7) rfl (by omega)]
        simp only [l20, l21, cond_true, hin, hcn, u3w, f46, g46, f54, f53, d54, ni_1]
        cases hq : sv b with
        | some q =>
          obtain ⟨hq40, r, hr, hr2⟩ := hsv q hq
          rw [if_neg (show ¬ ms_en (some q) = -1 from ms_en_ne (by omega)), show ms_en (some q) = Int32.ofNat q from rfl, em_serve hl (by omega) hq40 hr (by rw [f53]; exact hr2)]
          simp only [ev_bv, f46, g46]
          rw [hq, hr2] at k1
          have e1 : ms_one w b (wi b) true (some q) (Int32.ofNat r) = ms_serve (ev_u1 (ev_u1 w (19 + 9 * b + 6) (Int32.ofNat (wi b))) (19 + 9 * b + 7) (ms_b01 true)) b q r := by
            unfold ms_one
            rw [ni_c (by omega)]
          rw [e1] at k1
          exact k1
        | none =>
          rw [if_pos (show ms_en none = -1 from rfl)]
          rw [hq] at k1
          by_cases ht : d 53 0 b = -1
          · rw [if_pos ht]
            rw [show ms_one w b (wi b) true none (d 53 0 b) = ev_u1 (ev_u1 w (19 + 9 * b + 6) (Int32.ofNat (wi b))) (19 + 9 * b + 7) (ms_b01 true) from if_pos ht] at k1
            exact k1
          · obtain ⟨r, hr, hr2⟩ : ∃ r, r < 16 ∧ d 53 0 b = Int32.ofNat r := hto.resolve_left ht
            rw [if_neg ht, em_refresh hl (by omega) hr (by rw [f53]; exact hr2) (by rw [f51]; exact d51) hw7]
            simp only [ev_bv, f46, g46]
            have e1 : ms_one w b (wi b) true none (d 53 0 b) = ms_refresh (ev_u1 (ev_u1 w (19 + 9 * b + 6) (Int32.ofNat (wi b))) (19 + 9 * b + 7) (ms_b01 true)) b r (wi b = 1) := by
              unfold ms_one
              simp only []
              rw [if_neg ht, hr2, ni_c (by omega)]
            rw [e1] at k1
            exact k1
  obtain ⟨h', k1, k2⟩ := loop B 0 (d 56 0) (by omega) (fun c hc => absurd hc (Nat.not_lt_zero c))
  refine ⟨h', ?_⟩
  have e0 : ev_w3 (ev_w3 d 46 0 (ms_acts (d 46 0) wi g sv (d 53 0) 0)) 56 0 (d 56 0) = d := by
    rw [show ms_acts (d 46 0) wi g sv (d 53 0) 0 = d 46 0 from rfl, w3e, w3e]
  rw [e0] at k1
  have hgr : ∀ b, b ≤ B → ms_grow (d 45 0) (ms_acts (d 46 0) wi g sv (d 53 0) B) R (d 53 0) h' sv b = ms_grow (d 45 0) (ms_acts (d 46 0) wi g sv (d 53 0) B) R (d 53 0) (ms_was (d 46 0) wi g sv (d 53 0)) sv b := by
    intro b
    induction b with
    | zero => intro _; rfl
    | succ b ih =>
      intro hb
      unfold ms_grow
      rw [ih (by omega), k2 b (by omega)]
  rw [hgr B (Nat.le_refl _)] at k1
  exact k1
end EM10
theorem ms_acts_c {w : Nat → Int32} {wi : Nat → Nat} {g : Nat → Bool} {sv : Nat → Option Nat} {to to' : Nat → Int32} {B : Nat} (h : ∀ b, b < B → to b = to' b) : ∀ b, b ≤ B → ms_acts w wi g sv to b = ms_acts w wi g sv to' b := by
  intro b
  induction b with
  | zero => intro _; rfl
  | succ b ih =>
    intro hb
    unfold ms_acts
    rw [ih (by omega), h b (by omega)]
theorem ms_grow_c {t w : Nat → Int32} {R B : Nat} {to to' hot hot' : Nat → Int32} {sv : Nat → Option Nat} (h : ∀ b, b < B → to b = to' b) (h2 : ∀ b, b < B → hot b = hot' b) : ∀ b, b ≤ B → ms_grow t w R to hot sv b = ms_grow t w R to' hot' sv b := by
  intro b
  induction b with
  | zero => intro _; rfl
  | succ b ih =>
    intro hb
    unfold ms_grow
    rw [ih (by omega), h b (by omega), h2 b (by omega)]
theorem ms_sv_to {t w : Nat → Int32} {C R B S b : Nat} (h16 : R ≤ 16) (hrow : ∀ q, q < C → ∃ r, r < 16 ∧ w (375 + 6 * q + 1) = Int32.ofNat r) :
    (∀ q, ms_sv t w C R B S b = some q → q < C ∧ ∃ r, r < 16 ∧ ms_to t w C R B S b = Int32.ofNat r) ∧ (ms_to t w C R B S b = -1 ∨ ∃ r, r < 16 ∧ ms_to t w C R B S b = Int32.ofNat r) := by
  unfold ms_sv ms_to
  by_cases hc : ms_rf (ms_wi t w C R b) ∧ ms_gg t w C R B S b = true
  · rw [if_pos hc, if_pos hc]
    exact ⟨fun q h => (nomatch h), Or.inr ⟨_, ms_wk_lt h16, rfl⟩⟩
  · rw [if_neg hc, if_neg hc]
    cases hf : ms_wat w b C 0 (-1) with
    | none => exact ⟨fun q h => (nomatch h), Or.inl rfl⟩
    | some q =>
      have hq := ms_wat_lt hf
      obtain ⟨r, h1, h2⟩ := hrow q hq
      exact ⟨fun q' h => by cases h; exact ⟨hq, r, h1, h2⟩, Or.inr ⟨r, h1, h2⟩⟩
section EM11
variable {n : Nat} {lk : Nat → Nat → Nat → Bool} {d : Nat → Nat → Nat → Int32} {o : ev_W}
theorem em_passes (hl : LK lk) {B R C S : Nat} (hD : ms_D d B R C S) (hrow : ∀ q, q < C → ∃ r, r < 16 ∧ d 46 0 (375 + 6 * q + 1) = Int32.ofNat r) :
    ∃ d', EV (182, 0, [ev_R 44 0], [], 0, 0) (n, lk, d, o) = some (.inl none, (n, lk, d', o)) ∧ d' 46 0 = ms_tick (d 45 0) (d 46 0) C R B S ∧
      ∀ r, r ≠ 46 → r ≠ 51 → r ≠ 52 → r ≠ 53 → r ≠ 54 → r ≠ 55 → r ≠ 56 → d' r = d r := by
  obtain ⟨D, p1, p2, p3, p4⟩ := em_plans (n := n) (lk := lk) (o := o) hl hD
  obtain ⟨hB, hR, h3, hC, hS, h1B, h4, h1R, h16, h40, hS4⟩ := hD
  generalize hW : ms_pre (d 45 0) (d 46 0) C B = w at p2 p4
  have hrow2 : ∀ q, q < C → ∃ r, r < 16 ∧ w (375 + 6 * q + 1) = Int32.ofNat r := fun q hq => by
    rw [← hW, ms_pre_q1 (k := 1) (by omega) h4]
    exact hrow q hq
  have D45 : D 45 = d 45 := p3 45 (by omega) (by omega) (by omega) (by omega) (by omega) (by omega)
  have hto : ∀ b, b < B → D 53 0 b = ms_to (d 45 0) w C R B S b := fun b hb => (p4 b hb).2.2.2.2
  obtain ⟨h, k1⟩ := em_acts (n := n) (lk := lk) (o := o) (d := D) hl (B := B) (R := R) (wi := ms_wi (d 45 0) w C R) (g := ms_gg (d 45 0) w C R B S) (sv := ms_sv (d 45 0) w C R B S) (by rw [D45]; exact hB) (by rw [D45]; exact hR) h4 h16 (fun b hb => by
    obtain ⟨a1, a2, a3, a4, a5⟩ := p4 b hb
    obtain ⟨s1, s2⟩ := ms_sv_to (t := d 45 0) (w := w) (C := C) (R := R) (B := B) (S := S) (b := b) h16 hrow2
    rw [a5]
    exact ⟨a2, ms_wish_lt _ _ _ _ _, a3, a4, fun q hq => ⟨by have := (s1 q hq).1; omega, (s1 q hq).2⟩, s2⟩)
  refine ⟨ev_w3 (ev_w3 D 46 0 (ms_end (ms_grow (D 45 0) (ms_acts (D 46 0) (ms_wi (d 45 0) w C R) (ms_gg (d 45 0) w C R B S) (ms_sv (d 45 0) w C R B S) (D 53 0) B) R (D 53 0) (ms_was (D 46 0) (ms_wi (d 45 0) w C R) (ms_gg (d 45 0) w C R B S) (ms_sv (d 45 0) w C R B S) (D 53 0)) (ms_sv (d 45 0) w C R B S) B))) 56 0 h, EV_bk (k := 400) ?_, ?_, fun r a1 a2 a3 a4 a5 a6 a7 => ?_⟩
  · rw [bk_182_0, p1]
    simp only [ev_bv]
    exact k1
  · rw [w3n (by omega), w3s, D45, p2]
    unfold ms_tick
    rw [hW]
    have e1 := ms_acts_c (w := w) (wi := ms_wi (d 45 0) w C R) (g := ms_gg (d 45 0) w C R B S) (sv := ms_sv (d 45 0) w C R B S) hto
    rw [e1 B (Nat.le_refl _)]
    rw [ms_grow_c (t := d 45 0) (R := R) (sv := ms_sv (d 45 0) w C R B S) hto (hot' := ms_was w (ms_wi (d 45 0) w C R) (ms_gg (d 45 0) w C R B S) (ms_sv (d 45 0) w C R B S) (ms_to (d 45 0) w C R B S)) (fun b hb => by unfold ms_was; rw [e1 b (by omega)]) B (Nat.le_refl _)]
  · rw [w3n a7, w3n a1, p3 r a1 a2 a3 a4 a5 a6]
end EM11
/-! WHAT THE METHODS DO, 12: what a tick of the reference keeps -/
def ms_UK (k : Nat) : Prop := k < 8 ∨ k = 9 ∨ ∃ q j, j < 3 ∧ k = 375 + 6 * q + j
theorem ms_pre_k {t w : Nat → Int32} {C B k : Nat} (hk : ms_UK k) (h4 : B ≤ 4) : ms_pre t w C B k = w k := by
  rcases hk with h | h | ⟨q, j, hj, rfl⟩
  · exact ms_pre_lo (by omega) (by omega) (by omega)
  · exact ms_pre_lo (by omega) (by omega) (by omega)
  · exact ms_pre_q1 hj h4
theorem ms_serve_k {w : Nat → Int32} {b q r k : Nat} (hk : ms_UK k) (hb : b < 4) (hr : r < 16) : ms_serve w b q r k = w k := by
  unfold ms_serve
  rcases hk with h | h | ⟨q', j, hj, rfl⟩
  · rw [u1n (by omega), u1n (by omega), u1n (by omega), u1n (by omega), u1n (by omega), u1n (by omega), u1n (by omega), u1n (by omega)]
  · rw [u1n (by omega), u1n (by omega), u1n (by omega), u1n (by omega), u1n (by omega), u1n (by omega), u1n (by omega), u1n (by omega)]
  · rw [u1n (by omega), u1n (by omega), u1n (by omega), u1n (by omega), u1n (by omega), u1n (by omega), u1n (by omega), u1n (by omega)]
theorem ms_refresh_k {w : Nat → Int32} {b r k : Nat} {u : Prop} [Decidable u] (hk : ms_UK k) (hb : b < 4) (hr : r < 16) : ms_refresh w b r u k = w k := by
  unfold ms_refresh
  rcases hk with h | h | ⟨q', j, hj, rfl⟩
  · rw [u1n (by omega), u1n (by omega), u1n (by omega), u1n (by omega), u1n (by omega)]
  · rw [u1n (by omega), u1n (by omega), u1n (by omega), u1n (by omega), u1n (by omega)]
  · rw [u1n (by omega), u1n (by omega), u1n (by omega), u1n (by omega), u1n (by omega)]
theorem ms_one_k {w : Nat → Int32} {b wi k : Nat} {g : Bool} {sv : Option Nat} {to : Int32} (hk : ms_UK k) (hb : b < 4) (hto : to = -1 ∨ ∃ r, r < 16 ∧ to = Int32.ofNat r) (hsv : ∀ q, sv = some q → to ≠ -1) : ms_one w b wi g sv to k = w k := by
  have base : ev_u1 (ev_u1 w (19 + 9 * b + 6) (Int32.ofNat wi)) (19 + 9 * b + 7) (ms_b01 g) k = w k := by
    rcases hk with h | h | ⟨q', j, hj, rfl⟩
    · rw [u1n (by omega), u1n (by omega)]
    · rw [u1n (by omega), u1n (by omega)]
    · rw [u1n (by omega), u1n (by omega)]
  unfold ms_one
  cases sv with
  | some q =>
    obtain ⟨r, hr, rfl⟩ := hto.resolve_left (hsv q rfl)
    simp only []
    rw [ni_c (by omega), ms_serve_k hk hb hr]
    exact base
  | none =>
    simp only []
    split
    · exact base
    · rename_i h
      obtain ⟨r, hr, rfl⟩ := hto.resolve_left h
      rw [ni_c (by omega), ms_refresh_k hk hb hr]
      exact base
theorem ms_ages_k {t w : Nat → Int32} {b r k : Nat} {to hot : Int32} (hk : ms_UK k) (hb : b < 4) (hr : r < 16) : ms_ages t w b r to hot k = w k := by
  have h1 : ∀ v x, v < 5 → ev_u1 w (55 + 5 * (16 * b + r) + v) x k = w k := by
    intro v x hv
    rcases hk with h | h | ⟨q', j, hj, rfl⟩ <;> exact u1n (by omega)
  have h2 : ms_age1 w (16 * b + r) k = w k := h1 0 _ (by omega)
  unfold ms_ages
  split
  · rcases hk with h | h | ⟨q', j, hj, rfl⟩
    · rw [u1n (by omega), u1n (by omega)]
    · rw [u1n (by omega), u1n (by omega)]
    · rw [u1n (by omega), u1n (by omega)]
  · split
    · unfold ms_lose
      rcases hk with h | h | ⟨q', j, hj, rfl⟩
      · rw [u1n (by omega), u1n (by omega), u1n (by omega)]; exact h2
      · rw [u1n (by omega), u1n (by omega), u1n (by omega)]; exact h2
      · rw [u1n (by omega), u1n (by omega), u1n (by omega)]; exact h2
    · exact h2
theorem ms_rows_k {t w : Nat → Int32} {b k : Nat} {to hot : Int32} (hk : ms_UK k) (hb : b < 4) : ∀ r, r ≤ 16 → ms_rows t w b to hot r k = w k
  | 0, _ => rfl
  | r + 1, hr => by
    unfold ms_rows
    rw [ms_ages_k hk hb (by omega)]
    exact ms_rows_k hk hb r (by omega)
theorem ms_cool1_k {w : Nat → Int32} {b k : Nat} {sv : Option Nat} (hk : ms_UK k) (hb : b < 4) : ms_cool1 w b sv k = w k := by
  unfold ms_cool1
  split
  · rcases hk with h | h | ⟨q', j, hj, rfl⟩ <;> exact u1n (by omega)
  · rfl
theorem ms_grow_k {t w : Nat → Int32} {R k : Nat} {to hot : Nat → Int32} {sv : Nat → Option Nat} (hk : ms_UK k) (h16 : R ≤ 16) : ∀ b, b ≤ 4 → ms_grow t w R to hot sv b k = w k
  | 0, _ => rfl
  | b + 1, hb => by
    unfold ms_grow
    rw [ms_cool1_k hk (by omega), ms_rows_k hk (by omega) R h16]
    exact ms_grow_k hk h16 b (by omega)
theorem ms_acts_k {w : Nat → Int32} {k B : Nat} {wi : Nat → Nat} {g : Nat → Bool} {sv : Nat → Option Nat} {to : Nat → Int32} (hk : ms_UK k) (h4 : B ≤ 4) (h : ∀ b, b < B → (to b = -1 ∨ ∃ r, r < 16 ∧ to b = Int32.ofNat r) ∧ ∀ q, sv b = some q → to b ≠ -1) : ∀ b, b ≤ B → ms_acts w wi g sv to b k = w k
  | 0, _ => rfl
  | b + 1, hb => by
    unfold ms_acts
    rw [ms_one_k hk (by omega) (h b (by omega)).1 (h b (by omega)).2]
    exact ms_acts_k hk h4 h b (by omega)
theorem ms_tick_k {t w : Nat → Int32} {C R B S k : Nat} (hk : ms_UK k) (h4 : B ≤ 4) (h16 : R ≤ 16) (hrow : ∀ q, q < C → ∃ r, r < 16 ∧ w (375 + 6 * q + 1) = Int32.ofNat r) : ms_tick t w C R B S k = w k := by
  have hrow2 : ∀ q, q < C → ∃ r, r < 16 ∧ ms_pre t w C B (375 + 6 * q + 1) = Int32.ofNat r := fun q hq => by
    rw [ms_pre_q1 (k := 1) (by omega) h4]
    exact hrow q hq
  have h8 : k ≠ 8 := by
    rcases hk with h | h | ⟨q', j, hj, rfl⟩ <;> omega
  unfold ms_tick ms_end
  rw [u1n h8, ms_grow_k hk h16 B h4, ms_acts_k hk h4 (B := B) (fun b hb => ?_) B (Nat.le_refl _), ms_pre_k hk h4]
  obtain ⟨s1, s2⟩ := ms_sv_to (t := t) (w := ms_pre t w C B) (C := C) (R := R) (B := B) (S := S) (b := b) h16 hrow2
  refine ⟨s2, fun q hq z => ?_⟩
  obtain ⟨-, r, hr, e⟩ := s1 q hq
  rw [e] at z
  exact ms_en_ne (by omega) z
section EM12
variable {n : Nat} {lk : Nat → Nat → Nat → Bool} {o : ev_W}
/-- what the reference's memory keeps from tick to tick -/
def ms_OK (d : Nat → Nat → Nat → Int32) (B R C S : Nat) : Prop := ms_D d B R C S ∧ ∀ q, q < C → ∃ r, r < 16 ∧ d 46 0 (375 + 6 * q + 1) = Int32.ofNat r
def ms_ticks (t w : Nat → Int32) (C R B S : Nat) : Nat → Nat → Int32
  | 0 => w
  | k + 1 => ms_ticks t (ms_tick t w C R B S) C R B S k
def ms_same (d d' : Nat → Nat → Nat → Int32) : Prop := ∀ r, r ≠ 46 → r ≠ 51 → r ≠ 52 → r ≠ 53 → r ≠ 54 → r ≠ 55 → r ≠ 56 → d' r = d r
theorem ms_OK.tick {d d' : Nat → Nat → Nat → Int32} {B R C S : Nat} (h : ms_OK d B R C S) (e : d' 46 0 = ms_tick (d 45 0) (d 46 0) C R B S) (hs : ms_same d d') : ms_OK d' B R C S := by
  obtain ⟨⟨hB, hR, h3, hC, hS, h1B, h4, h1R, h16, h40, hS4⟩, hrow⟩ := h
  have k : ∀ k, ms_UK k → d' 46 0 k = d 46 0 k := fun k hk => by rw [e]; exact ms_tick_k hk h4 h16 hrow
  have e45 : d' 45 = d 45 := hs 45 (by omega) (by omega) (by omega) (by omega) (by omega) (by omega) (by omega)
  refine ⟨⟨by rw [e45]; exact hB, by rw [e45]; exact hR, by rw [e45]; exact h3, by rw [k 9 (Or.inr (Or.inl rfl))]; exact hC, by rw [k 0 (Or.inl (by omega))]; exact hS, h1B, h4, h1R, h16, h40, hS4⟩, fun q hq => ?_⟩
  rw [k _ (Or.inr (Or.inr ⟨q, 1, by omega, rfl⟩))]
  exact hrow q hq
theorem em_lossesIn (hl : LK lk) {d : Nat → Nat → Nat → Int32} {B R C S k : Nat} (h : ms_OK d B R C S) (hk : k < 1000) : ∃ d', EV (185, 0, [ev_R 44 0, ev_I (Int32.ofNat k)], [], 0, 0) (n, lk, d, o) = some (.inl (some (ev_I (d' 46 0 14 - d 46 0 14))), (n, lk, d', o)) ∧ d' 46 0 = ms_ticks (d 45 0) (d 46 0) C R B S k ∧ ms_same d d' ∧ ms_OK d' B R C S := by
  have l2 : lk 44 0 2 = true := hl _ _ _ rfl (by decide) (by decide)
  have loop : ∀ j i, i + j = k → ∀ (y : Int32) (d : Nat → Nat → Nat → Int32), ms_OK d B R C S → ∃ d', EV (185, 10, [ev_R 44 0, ev_I (Int32.ofNat k), ev_I y, ev_I (Int32.ofNat i)], [], 0, 0) (n, lk, d, o) = some (.inl (some (ev_I (d' 46 0 14 - y))), (n, lk, d', o)) ∧ d' 46 0 = ms_ticks (d 45 0) (d 46 0) C R B S j ∧ ms_same d d' ∧ ms_OK d' B R C S := by
    intro j
    induction j with
    | zero =>
      intro i hi y d hd
      refine ⟨d, EV_bk (k := 400) ?_, rfl, fun _ _ _ _ _ _ _ _ => rfl, hd⟩
      rw [bk_185_10, if_neg (fun z => by have := (ni_lt (by omega) (by omega)).mp z; omega)]
      simp only [l2, cond_true]
    | succ j ih =>
      intro i hi y d hd
      obtain ⟨d1, p1, p2, p3⟩ := em_passes (n := n) (o := o) hl hd.1 hd.2
      have hd1 := hd.tick p2 p3
      obtain ⟨d', q1, q2, q3, q4⟩ := ih (i + 1) (by omega) y d1 hd1
      have e45 : d1 45 = d 45 := p3 45 (by omega) (by omega) (by omega) (by omega) (by omega) (by omega) (by omega)
      refine ⟨d', EV_bk (k := 400) ?_, by rw [q2, p2, e45]; rfl, fun r a1 a2 a3 a4 a5 a6 a7 => (q3 r a1 a2 a3 a4 a5 a6 a7).trans (p3 r a1 a2 a3 a4 a5 a6 a7), q4⟩
      rw [bk_185_10, if_pos ((ni_lt (by omega) (by omega)).mpr (by omega)), p1]
      simp only [ev_bv, ni_1]
      exact q1
  obtain ⟨d', q1, q2, q3, q4⟩ := loop k 0 (by omega) (d 46 0 14) d h
  refine ⟨d', EV_bk (k := 400) ?_, q2, q3, q4⟩
  rw [bk_185_0]
  simp only [l2, cond_true]
  exact q1
end EM12
/-! WHAT THE METHODS DO, 13: the reference copies -/
def ms_cp (f g : Nat → Int32) (a b k : Nat) : Nat → Int32 := fun j => if b ≤ j ∧ j < b + k then f (a + (j - b)) else g j
theorem ms_cp0 (f g : Nat → Int32) (a b : Nat) : ms_cp f g a b 0 = g := by
  funext j
  unfold ms_cp
  rw [if_neg (by omega)]
theorem ms_cpS (f g : Nat → Int32) (a b k : Nat) : ev_u1 (ms_cp f g a b k) (b + k) (f (a + k)) = ms_cp f g a b (k + 1) := by
  funext j
  unfold ev_u1 ms_cp
  by_cases h : j = b + k
  · rw [if_pos h, if_pos (by omega)]
    congr 1
    omega
  · rw [if_neg h]
    by_cases h2 : b ≤ j ∧ j < b + k
    · rw [if_pos h2, if_pos (by omega)]
    · rw [if_neg h2, if_neg (by omega)]
theorem ni_a (a k : Nat) : Int32.ofNat a + Int32.ofNat k = Int32.ofNat (a + k) := (Int32.ofNat_add a k).symm
section EM13
variable {n : Nat} {lk : Nat → Nat → Nat → Bool} {d : Nat → Nat → Nat → Int32} {o : ev_W}
theorem em_cp_46_57 {a b : Nat} (ha : a + 615 ≤ 615) (hb : b + 615 ≤ 615) : EV (218, 0, [ev_R 46 0, ev_I (Int32.ofNat a), ev_R 57 0, ev_I (Int32.ofNat b)], [], 0, 0) (n, lk, d, o) = some (.inl none, (n, lk, ev_w3 d 57 0 (ms_cp (d 46 0) (d 57 0) a b 615), o)) := by
  have loop : ∀ j k, k + j = 615 → EV (218, 3, [ev_R 46 0, ev_I (Int32.ofNat a), ev_R 57 0, ev_I (Int32.ofNat b), ev_I (Int32.ofNat k)], [], 0, 0) (n, lk, ev_w3 d 57 0 (ms_cp (d 46 0) (d 57 0) a b k), o) = some (.inl none, (n, lk, ev_w3 d 57 0 (ms_cp (d 46 0) (d 57 0) a b 615), o)) := by
    intro j
    induction j with
    | zero =>
      intro k hk
      refine EV_bk (k := 400) ?_
      have hk : k = 615 := by omega
      subst hk
      rw [bk_218_3_46_57, if_neg (fun z => by have := (ni_lt (b := 615) (by omega) (by omega)).mp z; omega)]
    | succ j ih =>
      intro k hk
      have e := ih (k + 1) (by omega)
      refine EV_bk (k := 400) ?_
      have hlt : Int32.ofNat k < (615 : Int32) := (ni_lt (b := 615) (by omega) (by omega)).mpr (by omega)
      rw [bk_218_3_46_57, if_pos hlt]
      simp only [ni_a, ni_1, ni_in (n := a + k) (N := 615) (by omega) (by omega), ni_in (n := b + k) (N := 615) (by omega) (by omega), ni_c (n := a + k) (by omega), ni_c (n := b + k) (by omega), cond_true, u3w, w3s, w3w]
      rw [show ev_w3 d 57 0 (ms_cp (d 46 0) (d 57 0) a b k) 46 = d 46 from w3n (by omega), ms_cpS]
      exact e
  refine EV_bk (k := 400) ?_
  rw [bk_218_0_46_57]
  have e := loop 615 0 (by omega)
  rw [ms_cp0, w3e] at e
  exact e
theorem em_cp_57_46 {a b : Nat} (ha : a + 615 ≤ 615) (hb : b + 615 ≤ 615) : EV (218, 0, [ev_R 57 0, ev_I (Int32.ofNat a), ev_R 46 0, ev_I (Int32.ofNat b)], [], 0, 0) (n, lk, d, o) = some (.inl none, (n, lk, ev_w3 d 46 0 (ms_cp (d 57 0) (d 46 0) a b 615), o)) := by
  have loop : ∀ j k, k + j = 615 → EV (218, 3, [ev_R 57 0, ev_I (Int32.ofNat a), ev_R 46 0, ev_I (Int32.ofNat b), ev_I (Int32.ofNat k)], [], 0, 0) (n, lk, ev_w3 d 46 0 (ms_cp (d 57 0) (d 46 0) a b k), o) = some (.inl none, (n, lk, ev_w3 d 46 0 (ms_cp (d 57 0) (d 46 0) a b 615), o)) := by
    intro j
    induction j with
    | zero =>
      intro k hk
      refine EV_bk (k := 400) ?_
      have hk : k = 615 := by omega
      subst hk
      rw [bk_218_3_57_46, if_neg (fun z => by have := (ni_lt (b := 615) (by omega) (by omega)).mp z; omega)]
    | succ j ih =>
      intro k hk
      have e := ih (k + 1) (by omega)
      refine EV_bk (k := 400) ?_
      have hlt : Int32.ofNat k < (615 : Int32) := (ni_lt (b := 615) (by omega) (by omega)).mpr (by omega)
      rw [bk_218_3_57_46, if_pos hlt]
      simp only [ni_a, ni_1, ni_in (n := a + k) (N := 615) (by omega) (by omega), ni_in (n := b + k) (N := 615) (by omega) (by omega), ni_c (n := a + k) (by omega), ni_c (n := b + k) (by omega), cond_true, u3w, w3s, w3w]
      rw [show ev_w3 d 46 0 (ms_cp (d 57 0) (d 46 0) a b k) 57 = d 57 from w3n (by omega), ms_cpS]
      exact e
  refine EV_bk (k := 400) ?_
  rw [bk_218_0_57_46]
  have e := loop 615 0 (by omega)
  rw [ms_cp0, w3e] at e
  exact e
theorem em_cp_46_58 {a b : Nat} (ha : a + 615 ≤ 615) (hb : b + 615 ≤ 6150) : EV (218, 0, [ev_R 46 0, ev_I (Int32.ofNat a), ev_R 58 0, ev_I (Int32.ofNat b)], [], 0, 0) (n, lk, d, o) = some (.inl none, (n, lk, ev_w3 d 58 0 (ms_cp (d 46 0) (d 58 0) a b 615), o)) := by
  have loop : ∀ j k, k + j = 615 → EV (218, 3, [ev_R 46 0, ev_I (Int32.ofNat a), ev_R 58 0, ev_I (Int32.ofNat b), ev_I (Int32.ofNat k)], [], 0, 0) (n, lk, ev_w3 d 58 0 (ms_cp (d 46 0) (d 58 0) a b k), o) = some (.inl none, (n, lk, ev_w3 d 58 0 (ms_cp (d 46 0) (d 58 0) a b 615), o)) := by
    intro j
    induction j with
    | zero =>
      intro k hk
      refine EV_bk (k := 400) ?_
      have hk : k = 615 := by omega
      subst hk
      rw [bk_218_3_46_58, if_neg (fun z => by have := (ni_lt (b := 615) (by omega) (by omega)).mp z; omega)]
    | succ j ih =>
      intro k hk
      have e := ih (k + 1) (by omega)
      refine EV_bk (k := 400) ?_
      have hlt : Int32.ofNat k < (615 : Int32) := (ni_lt (b := 615) (by omega) (by omega)).mpr (by omega)
      rw [bk_218_3_46_58, if_pos hlt]
      simp only [ni_a, ni_1, ni_in (n := a + k) (N := 615) (by omega) (by omega), ni_in (n := b + k) (N := 6150) (by omega) (by omega), ni_c (n := a + k) (by omega), ni_c (n := b + k) (by omega), cond_true, u3w, w3s, w3w]
      rw [show ev_w3 d 58 0 (ms_cp (d 46 0) (d 58 0) a b k) 46 = d 46 from w3n (by omega), ms_cpS]
      exact e
  refine EV_bk (k := 400) ?_
  rw [bk_218_0_46_58]
  have e := loop 615 0 (by omega)
  rw [ms_cp0, w3e] at e
  exact e
theorem em_cp_58_46 {a b : Nat} (ha : a + 615 ≤ 6150) (hb : b + 615 ≤ 615) : EV (218, 0, [ev_R 58 0, ev_I (Int32.ofNat a), ev_R 46 0, ev_I (Int32.ofNat b)], [], 0, 0) (n, lk, d, o) = some (.inl none, (n, lk, ev_w3 d 46 0 (ms_cp (d 58 0) (d 46 0) a b 615), o)) := by
  have loop : ∀ j k, k + j = 615 → EV (218, 3, [ev_R 58 0, ev_I (Int32.ofNat a), ev_R 46 0, ev_I (Int32.ofNat b), ev_I (Int32.ofNat k)], [], 0, 0) (n, lk, ev_w3 d 46 0 (ms_cp (d 58 0) (d 46 0) a b k), o) = some (.inl none, (n, lk, ev_w3 d 46 0 (ms_cp (d 58 0) (d 46 0) a b 615), o)) := by
    intro j
    induction j with
    | zero =>
      intro k hk
      refine EV_bk (k := 400) ?_
      have hk : k = 615 := by omega
      subst hk
      rw [bk_218_3_58_46, if_neg (fun z => by have := (ni_lt (b := 615) (by omega) (by omega)).mp z; omega)]
    | succ j ih =>
      intro k hk
      have e := ih (k + 1) (by omega)
      refine EV_bk (k := 400) ?_
      have hlt : Int32.ofNat k < (615 : Int32) := (ni_lt (b := 615) (by omega) (by omega)).mpr (by omega)
      rw [bk_218_3_58_46, if_pos hlt]
      simp only [ni_a, ni_1, ni_in (n := a + k) (N := 6150) (by omega) (by omega), ni_in (n := b + k) (N := 615) (by omega) (by omega), ni_c (n := a + k) (by omega), ni_c (n := b + k) (by omega), cond_true, u3w, w3s, w3w]
      rw [show ev_w3 d 46 0 (ms_cp (d 58 0) (d 46 0) a b k) 58 = d 58 from w3n (by omega), ms_cpS]
      exact e
  refine EV_bk (k := 400) ?_
  rw [bk_218_0_58_46]
  have e := loop 615 0 (by omega)
  rw [ms_cp0, w3e] at e
  exact e
theorem em_cp_46_59 {a b : Nat} (ha : a + 615 ≤ 615) (hb : b + 615 ≤ 1230) : EV (218, 0, [ev_R 46 0, ev_I (Int32.ofNat a), ev_R 59 0, ev_I (Int32.ofNat b)], [], 0, 0) (n, lk, d, o) = some (.inl none, (n, lk, ev_w3 d 59 0 (ms_cp (d 46 0) (d 59 0) a b 615), o)) := by
  have loop : ∀ j k, k + j = 615 → EV (218, 3, [ev_R 46 0, ev_I (Int32.ofNat a), ev_R 59 0, ev_I (Int32.ofNat b), ev_I (Int32.ofNat k)], [], 0, 0) (n, lk, ev_w3 d 59 0 (ms_cp (d 46 0) (d 59 0) a b k), o) = some (.inl none, (n, lk, ev_w3 d 59 0 (ms_cp (d 46 0) (d 59 0) a b 615), o)) := by
    intro j
    induction j with
    | zero =>
      intro k hk
      refine EV_bk (k := 400) ?_
      have hk : k = 615 := by omega
      subst hk
      rw [bk_218_3_46_59, if_neg (fun z => by have := (ni_lt (b := 615) (by omega) (by omega)).mp z; omega)]
    | succ j ih =>
      intro k hk
      have e := ih (k + 1) (by omega)
      refine EV_bk (k := 400) ?_
      have hlt : Int32.ofNat k < (615 : Int32) := (ni_lt (b := 615) (by omega) (by omega)).mpr (by omega)
      rw [bk_218_3_46_59, if_pos hlt]
      simp only [ni_a, ni_1, ni_in (n := a + k) (N := 615) (by omega) (by omega), ni_in (n := b + k) (N := 1230) (by omega) (by omega), ni_c (n := a + k) (by omega), ni_c (n := b + k) (by omega), cond_true, u3w, w3s, w3w]
      rw [show ev_w3 d 59 0 (ms_cp (d 46 0) (d 59 0) a b k) 46 = d 46 from w3n (by omega), ms_cpS]
      exact e
  refine EV_bk (k := 400) ?_
  rw [bk_218_0_46_59]
  have e := loop 615 0 (by omega)
  rw [ms_cp0, w3e] at e
  exact e
theorem em_cp_59_46 {a b : Nat} (ha : a + 615 ≤ 1230) (hb : b + 615 ≤ 615) : EV (218, 0, [ev_R 59 0, ev_I (Int32.ofNat a), ev_R 46 0, ev_I (Int32.ofNat b)], [], 0, 0) (n, lk, d, o) = some (.inl none, (n, lk, ev_w3 d 46 0 (ms_cp (d 59 0) (d 46 0) a b 615), o)) := by
  have loop : ∀ j k, k + j = 615 → EV (218, 3, [ev_R 59 0, ev_I (Int32.ofNat a), ev_R 46 0, ev_I (Int32.ofNat b), ev_I (Int32.ofNat k)], [], 0, 0) (n, lk, ev_w3 d 46 0 (ms_cp (d 59 0) (d 46 0) a b k), o) = some (.inl none, (n, lk, ev_w3 d 46 0 (ms_cp (d 59 0) (d 46 0) a b 615), o)) := by
    intro j
    induction j with
    | zero =>
      intro k hk
      refine EV_bk (k := 400) ?_
      have hk : k = 615 := by omega
      subst hk
      rw [bk_218_3_59_46, if_neg (fun z => by have := (ni_lt (b := 615) (by omega) (by omega)).mp z; omega)]
    | succ j ih =>
      intro k hk
      have e := ih (k + 1) (by omega)
      refine EV_bk (k := 400) ?_
      have hlt : Int32.ofNat k < (615 : Int32) := (ni_lt (b := 615) (by omega) (by omega)).mpr (by omega)
      rw [bk_218_3_59_46, if_pos hlt]
      simp only [ni_a, ni_1, ni_in (n := a + k) (N := 1230) (by omega) (by omega), ni_in (n := b + k) (N := 615) (by omega) (by omega), ni_c (n := a + k) (by omega), ni_c (n := b + k) (by omega), cond_true, u3w, w3s, w3w]
      rw [show ev_w3 d 46 0 (ms_cp (d 59 0) (d 46 0) a b k) 59 = d 59 from w3n (by omega), ms_cpS]
      exact e
  refine EV_bk (k := 400) ?_
  rw [bk_218_0_59_46]
  have e := loop 615 0 (by omega)
  rw [ms_cp0, w3e] at e
  exact e
theorem ms_cp615 {f g : Nat → Int32} : ms_cp f g 0 0 615 = fun j => if j < 615 then f j else g j := by
  funext j
  unfold ms_cp
  by_cases h : j < 615
  · rw [if_pos (by omega), if_pos h]
    congr 1
    omega
  · rw [if_neg (by omega), if_neg h]
theorem em_tries (hl : LK lk) : EV (183, 0, [ev_R 44 0], [], 0, 0) (n, lk, d, o) = some (.inl none, (n, lk, ev_w3 d 57 0 (fun j => if j < 615 then d 46 0 j else d 57 0 j), o)) := by
  have l2 : lk 44 0 2 = true := hl _ _ _ rfl (by decide) (by decide)
  have l24 : lk 44 0 24 = true := hl _ _ _ rfl (by decide) (by decide)
  have e := em_cp_46_57 (n := n) (lk := lk) (d := d) (o := o) (a := 0) (b := 0) (by omega) (by omega)
  rw [ms_cp615] at e
  refine EV_bk (k := 400) ?_
  rw [bk_183_0, l2, l24]
  simp only [cond_true]
  rw [show EV (218, 0, [ev_R 46 0, ev_I (0 : Int32), ev_R 57 0, ev_I (0 : Int32)], [], 0, 0) (n, lk, d, o) = _ from e]
  rfl
theorem em_comesBack (hl : LK lk) : EV (184, 0, [ev_R 44 0], [], 0, 0) (n, lk, d, o) = some (.inl none, (n, lk, ev_w3 d 46 0 (fun j => if j < 615 then d 57 0 j else d 46 0 j), o)) := by
  have l2 : lk 44 0 2 = true := hl _ _ _ rfl (by decide) (by decide)
  have l24 : lk 44 0 24 = true := hl _ _ _ rfl (by decide) (by decide)
  have e := em_cp_57_46 (n := n) (lk := lk) (d := d) (o := o) (a := 0) (b := 0) (by omega) (by omega)
  rw [ms_cp615] at e
  refine EV_bk (k := 400) ?_
  rw [bk_184_0, l2, l24]
  simp only [cond_true]
  rw [show EV (218, 0, [ev_R 57 0, ev_I (0 : Int32), ev_R 46 0, ev_I (0 : Int32)], [], 0, 0) (n, lk, d, o) = _ from e]
  rfl
end EM13
/-! WHAT THE METHODS DO, 14: the small ones of the program itself -/
section EC1
variable {n : Nat} {lk : Nat → Nat → Nat → Bool} {d : Nat → Nat → Nat → Int32} {o : ev_W} {i : Nat} {x : Int32}
theorem ec_cellOf {b r : Nat} {μ : ev_M} : EV (124, 0, [ev_I (Int32.ofNat b), ev_I (Int32.ofNat r)], [], 0, 0) μ = some (.inl (some (ev_I (Int32.ofNat (16 * b + r)))), μ) := by
  obtain ⟨n, lk, d, o⟩ := μ
  refine EV_bk (k := 400) ?_
  rw [bk_124_0, show Int32.ofNat b * (16 : Int32) + Int32.ofNat r = Int32.ofNat (16 * b + r) by rw [Nat.mul_comm 16 b, Int32.ofNat_add, Int32.ofNat_mul]; rfl]
theorem ec_has {μ : ev_M} : EV (46, 0, [ev_R 17 i, ev_I x], [], 0, 0) μ = some (.inl (some (ev_I (if 0 ≤ x ∧ x < μ.2.2.1 17 i 0 then 1 else 0))), μ) := by
  obtain ⟨n, lk, d, o⟩ := μ
  refine EV_bk (k := 400) ?_
  rw [bk_46_0]
  by_cases h1 : x < 0
  · rw [if_pos h1, if_neg (fun z => Int32.not_le.mpr h1 z.1)]
  · rw [if_neg h1]
    by_cases h2 : x < d 17 i 0
    · rw [if_pos h2, if_pos ⟨Int32.not_lt.mp h1, h2⟩]
    · rw [if_neg h2, if_neg (fun z => h2 z.2)]
theorem ec_hasBank {μ : ev_M} : EV (27, 0, [ev_R 24 i, ev_I x], [], 0, 0) μ = some (.inl (some (ev_I (if 0 ≤ x ∧ x < μ.2.2.1 24 i 0 then 1 else 0))), μ) := by
  obtain ⟨n, lk, d, o⟩ := μ
  refine EV_bk (k := 400) ?_
  rw [bk_27_0]
  by_cases h1 : x < 0
  · rw [if_pos h1, if_neg (fun z => Int32.not_le.mpr h1 z.1)]
  · rw [if_neg h1]
    by_cases h2 : x < d 24 i 0
    · rw [if_pos h2, if_pos ⟨Int32.not_lt.mp h1, h2⟩]
    · rw [if_neg h2, if_neg (fun z => h2 z.2)]
theorem ec_hasRow {μ : ev_M} : EV (28, 0, [ev_R 24 i, ev_I x], [], 0, 0) μ = some (.inl (some (ev_I (if 0 ≤ x ∧ x < μ.2.2.1 24 i 1 then 1 else 0))), μ) := by
  obtain ⟨n, lk, d, o⟩ := μ
  refine EV_bk (k := 400) ?_
  rw [bk_28_0]
  by_cases h1 : x < 0
  · rw [if_pos h1, if_neg (fun z => Int32.not_le.mpr h1 z.1)]
  · rw [if_neg h1]
    by_cases h2 : x < d 24 i 1
    · rw [if_pos h2, if_pos ⟨Int32.not_lt.mp h1, h2⟩]
    · rw [if_neg h2, if_neg (fun z => h2 z.2)]
theorem ec_isHot (hl : LK lk) (hi : i < 15) {b : Nat} (hb : b < 4) : EV (64, 0, [ev_R 0 i, ev_I (Int32.ofNat b)], [], 0, 0) (n, lk, d, o) = some (.inl (some (ev_I (if d 1 i 3 ≤ d 5 i b then 1 else 0))), (n, lk, d, o)) := by
  have a1 : lk 0 i 6 = true := hl 0 i 6 rfl hi (by decide)
  have a2 : lk 0 i 4 = true := hl 0 i 4 rfl hi (by decide)
  have a3 : lk 3 i 1 = true := hl 3 i 1 rfl hi (by decide)
  refine EV_bk (k := 400) ?_
  rw [bk_64_0]
  simp only [a1, a2, a3, cond_true, ni_in (n := b) (N := 4) (by omega) (by omega), ni_c (n := b) (by omega)]
  by_cases h : d 5 i b < d 1 i 3
  · rw [if_pos h, if_neg (Int32.not_le.mpr h)]
  · rw [if_neg h, if_pos (Int32.not_lt.mp h)]
theorem ec_canTake (hl : LK lk) (hi : i < 15) {b : Nat} (hb : b < 4) : EV (65, 0, [ev_R 0 i, ev_I (Int32.ofNat b)], [], 0, 0) (n, lk, d, o) = some (.inl (some (ev_I (if ¬ d 1 i 3 ≤ d 5 i b ∧ d 4 i b < d 1 i 1 then 1 else 0))), (n, lk, d, o)) := by
  have a1 : lk 0 i 6 = true := hl 0 i 6 rfl hi (by decide)
  have a2 : lk 0 i 4 = true := hl 0 i 4 rfl hi (by decide)
  have a3 : lk 3 i 0 = true := hl 3 i 0 rfl hi (by decide)
  refine EV_bk (k := 400) ?_
  rw [bk_65_0, ec_isHot hl hi hb]
  simp only [ev_bi, a1, a2, a3, cond_true, ni_in (n := b) (N := 4) (by omega) (by omega), ni_c (n := b) (by omega)]
  by_cases h1 : d 1 i 3 ≤ d 5 i b
  · rw [if_pos h1, if_neg (by decide), if_neg (fun z => z.1 h1)]
  · rw [if_neg h1, if_pos rfl]
    by_cases h2 : d 4 i b < d 1 i 1
    · rw [if_pos h2, if_pos ⟨h1, h2⟩]
    · rw [if_neg h2, if_neg (fun z => h2 z.2)]
/-- the bound of a row of a bank that isn't hot -/
def mc_cool (bd wb wf tm : Int32) : Int32 := if wb = -1 then bd else if tm < wf then bd else if wb < bd then wb else bd
theorem ec_coolBoundOf (hl : LK lk) (hi : i < 2) {c : Nat} (hc : c < 64) : EV (29, 0, [ev_R 24 i, ev_I (Int32.ofNat c), ev_I x], [], 0, 0) (n, lk, d, o) = some (.inl (some (ev_I (mc_cool (d 24 i 2) (d 25 i c) (d 26 i c) x))), (n, lk, d, o)) := by
  have a1 : lk 24 i 5 = true := hl 24 i 5 rfl hi (by decide)
  have a2 : lk 24 i 6 = true := hl 24 i 6 rfl hi (by decide)
  refine EV_bk (k := 400) ?_
  rw [bk_29_0]
  simp only [a1, a2, cond_true, ni_in (n := c) (N := 64) (by omega) (by omega), ni_c (n := c) (by omega)]
  unfold mc_cool
  by_cases h1 : d 25 i c = -1
  · rw [if_pos h1, if_pos h1]
  · rw [if_neg h1, if_neg h1]
    by_cases h2 : x < d 26 i c
    · rw [if_pos h2, if_pos h2]
    · rw [if_neg h2, if_neg h2]
def mc_bound (d : Nat → Nat → Nat → Int32) (l i b r : Nat) : Int32 :=
  if d 1 i 3 ≤ d 5 i b then (if 1 < mc_cool (d 24 l 2) (d 25 l (16 * b + r)) (d 26 l (16 * b + r)) (d 0 i 0) / 2 then mc_cool (d 24 l 2) (d 25 l (16 * b + r)) (d 26 l (16 * b + r)) (d 0 i 0) / 2 else 1)
  else mc_cool (d 24 l 2) (d 25 l (16 * b + r)) (d 26 l (16 * b + r)) (d 0 i 0)
theorem ec_boundOf (hl : LK lk) {l : Nat} (hi : i < 15) (hl2 : l < 2) {b r : Nat} (hb : b < 4) (hr : r < 16) : EV (125, 0, [ev_R 24 l, ev_R 0 i, ev_I (Int32.ofNat b), ev_I (Int32.ofNat r)], [], 0, 0) (n, lk, d, o) = some (.inl (some (ev_I (mc_bound d l i b r))), (n, lk, d, o)) := by
  refine EV_bk (k := 400) ?_
  rw [bk_125_0, ec_cellOf]
  simp only [ev_bi]
  rw [ec_coolBoundOf hl hl2 (by omega)]
  simp only []
  rw [ec_isHot hl hi hb]
  simp only []
  unfold mc_bound
  by_cases h1 : d 1 i 3 ≤ d 5 i b
  · rw [if_pos h1, if_pos h1, if_neg (by decide)]
  · rw [if_neg h1, if_neg h1, if_pos rfl]
end EC1
/-! THE CLASS AGAINST THE REFERENCE, 1: what lies alike -/
/-- a layout of the program says what the reference was told -/
def CL (d : Nat → Nat → Nat → Int32) (l : Nat) (t : Nat → Int32) : Prop := d 24 l 0 = t 0 ∧ d 24 l 1 = t 1 ∧ d 24 l 2 = t 2 ∧ d 24 l 3 = t 3 ∧
  ∀ c, c < 64 → (d 25 l c = -1 ∧ d 26 l c = -1 ∧ t (4 + 2 * c) = 0) ∨ (d 25 l c = t (4 + 2 * c) ∧ d 26 l c = t (4 + 2 * c + 1) ∧ 0 < t (4 + 2 * c))
/-- how many of the first k requests of a bank are in a state -/
def ms_many (w : Nat → Int32) (b : Nat) (st : Int32) : Nat → Nat
  | 0 => 0
  | k + 1 => if w (375 + 6 * k + 3) = st ∧ w (375 + 6 * k + 0) = Int32.ofNat b then ms_many w b st k + 1 else ms_many w b st k
/-- how many of the first k requests came -/
def ms_cm (w : Nat → Int32) : Nat → Nat
  | 0 => 0
  | k + 1 => if w (375 + 6 * k + 3) = 0 then ms_cm w k else ms_cm w k + 1
theorem ms_cm_le (w : Nat → Int32) : ∀ k, ms_cm w k ≤ k
  | 0 => Nat.le_refl _
  | k + 1 => by
    unfold ms_cm
    have := ms_cm_le w k
    split <;> omega
theorem ms_cm_lt {w : Nat → Int32} {q : Nat} (h : w (375 + 6 * q + 3) = 0) : ∀ {k}, q < k → ms_cm w k < k
  | 0, hq => absurd hq (Nat.not_lt_zero _)
  | k + 1, hq => by
    unfold ms_cm
    by_cases e : k = q
    · subst e
      rw [if_pos h]
      have := ms_cm_le w k
      omega
    · have := ms_cm_lt h (k := k) (by omega)
      split <;> omega
/-- a state of the program lies as the reference's numbers -/
def CS (d : Nat → Nat → Nat → Int32) (i : Nat) (w : Nat → Int32) (C K : Nat) : Prop :=
  (∀ k, k < 7 → d 1 i k = w k) ∧ d 0 i 1 = w 7 ∧ d 0 i 0 = w 8 ∧ d 0 i 2 = w 17 ∧ d 0 i 3 = w 18 ∧ d 17 i 0 = w 9 ∧ d 17 i 1 = w 10 ∧ (∀ k, k < 6 → d 2 i k = w (11 + k)) ∧
  (∀ b, b < 4 → d 4 i b = w (19 + 9 * b + 0) ∧ d 5 i b = w (19 + 9 * b + 1) ∧ d 6 i b = w (19 + 9 * b + 3) ∧ d 7 i b = w (19 + 9 * b + 4) ∧ d 8 i b = w (19 + 9 * b + 5) ∧ d 9 i b = w (19 + 9 * b + 6) ∧ d 10 i b = w (19 + 9 * b + 7)) ∧
  (∀ c, c < 64 → d 12 i c = w (55 + 5 * c + 0) ∧ d 13 i c = w (55 + 5 * c + 1) ∧ d 14 i c = w (55 + 5 * c + 2) ∧ d 15 i c = w (55 + 5 * c + 3) ∧ d 16 i c = w (55 + 5 * c + 4)) ∧
  (∀ q, q < C → d 18 i q = w (375 + 6 * q + 0) ∧ d 19 i q = w (375 + 6 * q + 1) ∧ d 20 i q = w (375 + 6 * q + 2) ∧ d 21 i q = w (375 + 6 * q + 3) ∧ d 22 i q = w (375 + 6 * q + 4)) ∧
  (w 9 = Int32.ofNat C ∧ w 10 = Int32.ofNat K ∧ K = ms_cm w C ∧ C ≤ 40) ∧
  (∀ q, q < C → w (375 + 6 * q + 3) ≠ 0 → ∃ p, p < K ∧ w (375 + 6 * q + 5) = Int32.ofNat p ∧ d 23 i p = Int32.ofNat q) ∧
  (∀ p, p < K → ∃ q, q < C ∧ w (375 + 6 * q + 3) ≠ 0 ∧ w (375 + 6 * q + 5) = Int32.ofNat p ∧ d 23 i p = Int32.ofNat q)
theorem mc_ms_cool {d : Nat → Nat → Nat → Int32} {l c : Nat} {t w : Nat → Int32} (h : CL d l t) (hc : c < 64) : mc_cool (d 24 l 2) (d 25 l c) (d 26 l c) (w 8) = ms_cool t w c := by
  obtain ⟨-, -, h2, -, h5⟩ := h
  unfold mc_cool ms_cool
  rcases h5 c hc with ⟨e1, -, e3⟩ | ⟨e1, e2, e3⟩
  · rw [if_pos e1, if_neg (fun z => by rw [e3] at z; exact absurd z.1 (by decide)), h2]
  · have hne : ¬ d 25 l c = -1 := fun z => by
      rw [e1] at z
      rw [z] at e3
      exact absurd e3 (by decide)
    rw [if_neg hne, e1, e2, h2]
    by_cases a : w 8 < t (4 + 2 * c + 1)
    · rw [if_pos a, if_neg (fun z => Int32.not_le.mpr a z.2.1)]
    · rw [if_neg a]
      by_cases b : t (4 + 2 * c) < t 2
      · rw [if_pos b, if_pos ⟨e3, Int32.not_lt.mp a, b⟩]
      · rw [if_neg b, if_neg (fun z => b z.2.2)]
theorem mc_half {x : Int32} : (if 1 < x / 2 then x / 2 else 1) = ms_half x := by
  unfold ms_half
  by_cases h1 : x / 2 < 1
  · rw [if_pos h1, if_neg (fun z => Int32.lt_irrefl (Int32.lt_trans z h1))]
  · rw [if_neg h1]
    by_cases h2 : 1 < x / 2
    · rw [if_pos h2]
    · rw [if_neg h2]
      exact Int32.le_antisymm (Int32.not_lt.mp h1) (Int32.not_lt.mp h2)
theorem mc_ms_bound {d : Nat → Nat → Nat → Int32} {l i b r C K : Nat} {t w : Nat → Int32} (h : CL d l t) (hs : CS d i w C K) (hb : b < 4) (hr : r < 16) : mc_bound d l i b r = ms_bound t w b r := by
  obtain ⟨s1, -, s3, -, -, -, -, -, s9, -⟩ := hs
  unfold mc_bound ms_bound
  rw [s3, mc_ms_cool (w := w) h (by omega), s1 3 (by omega), (s9 b hb).2.1, mc_half]
  have e : 19 + 9 * b + 1 = 20 + 9 * b := by omega
  rw [e]
theorem ec_hot_ms {d : Nat → Nat → Nat → Int32} {i b C K : Nat} {w : Nat → Int32} (hs : CS d i w C K) (hb : b < 4) : (d 1 i 3 ≤ d 5 i b) ↔ ms_hot w b := by
  obtain ⟨s1, -, s3, -, -, -, -, -, s9, -⟩ := hs
  rw [s1 3 (by omega), (s9 b hb).2.1, show 19 + 9 * b + 1 = 20 + 9 * b by omega]
/-! THE CLASS AGAINST THE REFERENCE, 2: the line -/
def ms_L : Nat → Int32
  | 0 => -1
  | p + 1 => Int32.ofNat p
theorem ms_L_lt {p p' : Nat} (h : p < 1000) (h' : p' < 1000) : (ms_L p < Int32.ofNat p') ↔ p ≤ p' := by
  cases p with
  | zero =>
    refine ⟨fun _ => Nat.zero_le _, fun _ => ?_⟩
    rw [Int32.lt_iff_toInt_lt, ni_t (by omega)]
    have : (ms_L 0).toInt = -1 := by decide
    omega
  | succ p =>
    show (Int32.ofNat p < Int32.ofNat p') ↔ _
    rw [ni_lt (by omega) (by omega)]
    omega
theorem ms_fnd_c {w : Nat → Int32} {b : Nat} {l l' : Int32} : ∀ {n : Nat}, (∀ q, q < n → (ms_wt w b l q ↔ ms_wt w b l' q)) → ms_fnd w b l n = ms_fnd w b l' n
  | 0, _ => rfl
  | n + 1, h => by
    have ih := ms_fnd_c (n := n) (fun q hq => h q (by omega))
    have hn := h n (by omega)
    unfold ms_fnd
    rw [ih]
    by_cases c : ms_wt w b l n
    · rw [if_pos c, if_pos (hn.mp c)]
    · rw [if_neg c, if_neg (fun z => c (hn.mpr z))]
theorem ms_fnd_no {w : Nat → Int32} {b : Nat} {l : Int32} : ∀ {n : Nat}, (∀ q, q < n → ¬ ms_wt w b l q) → ms_fnd w b l n = none
  | 0, _ => rfl
  | n + 1, h => by
    unfold ms_fnd
    rw [if_neg (h n (by omega))]
    exact ms_fnd_no (fun q hq => h q (by omega))
/-- the one with the least order -/
theorem ms_fnd_is {w : Nat → Int32} {b q0 : Nat} {l : Int32} (h0 : ms_wt w b l q0) : ∀ {n : Nat}, (∀ q, q < n → ms_wt w b l q → q ≠ q0 → w (375 + 6 * q0 + 5) < w (375 + 6 * q + 5)) → q0 < n → ms_fnd w b l n = some q0
  | 0, _, h => absurd h (Nat.not_lt_zero _)
  | n + 1, h, hq => by
    unfold ms_fnd
    by_cases e : n = q0
    · subst e
      rw [if_pos h0]
      cases hf : ms_fnd w b l n with
      | none => rfl
      | some f =>
        have hfn := ms_fnd_lt hf
        have hw : ms_wt w b l f := by
          clear h hq h0
          induction n generalizing f with
          | zero => cases hf
          | succ n ih =>
            unfold ms_fnd at hf
            by_cases c : ms_wt w b l n
            · rw [if_pos c] at hf
              cases hg : ms_fnd w b l n with
              | none =>
                rw [hg] at hf
                cases hf
                exact c
              | some g =>
                rw [hg] at hf
                simp only [] at hf
                split at hf
                · cases hf; exact c
                · cases hf; exact ih _ hg (ms_fnd_lt hg)
            · rw [if_neg c] at hf
              exact ih _ hf (ms_fnd_lt hf)
        have hlt := h f (by omega) hw (by omega)
        simp only []
        rw [if_pos hlt]
    · have ih := ms_fnd_is h0 (n := n) (fun q hq => h q (by omega)) (by omega)
      rw [ih]
      by_cases c : ms_wt w b l n
      · rw [if_pos c]
        simp only []
        rw [if_neg (fun z => Int32.lt_irrefl (Int32.lt_trans z (h n (by omega) c e)))]
      · rw [if_neg c]
section EC2
variable {n : Nat} {lk : Nat → Nat → Nat → Bool} {d : Nat → Nat → Nat → Int32} {o : ev_W}
theorem ec_inLineOf (hl : LK lk) {i : Nat} (hi : i < 15) {w : Nat → Int32} {C K : Nat} (hs : CS d i w C K) {b k : Nat} (hb : b < 4) (hk : k < 1000) : EV (51, 0, [ev_R 17 i, ev_I (Int32.ofNat b), ev_I (Int32.ofNat k)], [], 0, 0) (n, lk, d, o) = some (.inl (some (ev_I (ms_en (ms_wat w b C k (-1))))), (n, lk, d, o)) := by
  obtain ⟨-, -, -, -, -, h9, h10, -, -, -, hq, ⟨w9, w10, hKm, h40⟩, hin, hout⟩ := hs
  have hKC : K ≤ C := by rw [hKm]; exact ms_cm_le w C
  have a2 : lk 17 i 2 = true := hl 17 i 2 rfl hi (by decide)
  have a5 : lk 17 i 5 = true := hl 17 i 5 rfl hi (by decide)
  have a7 : lk 17 i 7 = true := hl 17 i 7 rfl hi (by decide)
  have ord : ∀ q, q < C → ms_wt w b (-1) q ∨ w (375 + 6 * q + 3) = 1 → ∃ p, p < K ∧ w (375 + 6 * q + 5) = Int32.ofNat p ∧ d 23 i p = Int32.ofNat q := fun q hqC h => by
    have h1 : w (375 + 6 * q + 3) = 1 := h.elim (fun z => z.1) id
    exact hin q hqC (by rw [h1]; decide)
  -- the same line place is the same request
  have uniq : ∀ q q' p, q < C → q' < C → w (375 + 6 * q + 3) = 1 → w (375 + 6 * q' + 3) ≠ 0 → w (375 + 6 * q + 5) = Int32.ofNat p → w (375 + 6 * q' + 5) = Int32.ofNat p → p < K → q = q' := by
    intro q q' p h1 h2 h3 h4 h5 h6 hp
    obtain ⟨p1, c1, c2, c3⟩ := hin q h1 (by rw [h3]; decide)
    obtain ⟨p2, c4, c5, c6⟩ := hin q' h2 h4
    have e1 : p1 = p := (ni_eq (by omega) (by omega)).mp (c2.symm.trans h5)
    have e2 : p2 = p := (ni_eq (by omega) (by omega)).mp (c5.symm.trans h6)
    subst e1
    subst e2
    exact (ni_eq (by omega) (by omega)).mp (c3.symm.trans c6)
  have loop : ∀ j p, p + j = K → ∀ r a, a + r = k → EV (51, 5, [ev_R 17 i, ev_I (Int32.ofNat b), ev_I (Int32.ofNat k), ev_I (Int32.ofNat a), ev_I (Int32.ofNat p)], [], 0, 0) (n, lk, d, o) = some (.inl (some (ev_I (ms_en (ms_wat w b C r (ms_L p))))), (n, lk, d, o)) := by
    intro j
    induction j with
    | zero =>
      intro p hp r a har
      have hpK : p = K := by omega
      subst hpK
      have hno : ms_fnd w b (ms_L p) C = none := ms_fnd_no (fun q hqC hw => by
        obtain ⟨p', c1, c2, -⟩ := ord q hqC (Or.inr hw.1)
        have h3 := hw.2.2
        rw [c2, ms_L_lt (by omega) (by omega)] at h3
        omega)
      refine EV_bk (k := 400) ?_
      rw [bk_51_5, h10, w10, if_neg (fun z => by have := (ni_lt (by omega) (by omega)).mp z; omega)]
      cases r with
      | zero => rw [show ms_wat w b C 0 (ms_L p) = ms_fnd w b (ms_L p) C from rfl, hno]; rfl
      | succ r =>
        have e : ms_wat w b C (r + 1) (ms_L p) = none := by
          unfold ms_wat
          rw [hno]
        rw [e]; rfl
    | succ j ih =>
      intro p hp r a har
      obtain ⟨q, hqC, hq0, hqo, hql⟩ := hout p (by omega)
      obtain ⟨e18, -, -, e21, -⟩ := hq q hqC
      have hlt : Int32.ofNat p < Int32.ofNat K := (ni_lt (by omega) (by omega)).mpr (by omega)
      have hhas : (if (0 : Int32) ≤ Int32.ofNat q ∧ Int32.ofNat q < d 17 i 0 then (1 : Int32) else 0) = 1 := by
        rw [if_pos]
        refine ⟨(ni_le (a := 0) (by omega) (by omega)).mpr (Nat.zero_le _), ?_⟩
        rw [h9, w9]
        exact (ni_lt (by omega) (by omega)).mpr hqC
      have nin := ni_in (n := q) (N := 40) (by omega) (by omega)
      have ncq := ni_c (n := q) (by omega)
      refine EV_bk (k := 400) ?_
      rw [bk_51_5, h10, w10, if_pos hlt]
      simp only [a7, cond_true, ni_in (n := p) (N := 40) (by omega) (by omega), ni_c (n := p) (by omega), hql]
      rw [ec_has]
      simp only [ev_bi, hhas, a2, a5, cond_true, nin, ncq, ni_1, e18, e21]
      rw [if_neg (by decide)]
      by_cases c : w (375 + 6 * q + 0) = Int32.ofNat b ∧ w (375 + 6 * q + 3) = 1
      · rw [if_pos c.1, if_pos c.2]
        have hwt : ms_wt w b (ms_L p) q := ⟨c.2, c.1, by rw [hqo, ms_L_lt (by omega) (by omega)]; exact Nat.le_refl _⟩
        have hf : ms_fnd w b (ms_L p) C = some q := ms_fnd_is hwt (fun q' hq' hw' hne => by
          obtain ⟨p', c1, c2, c3⟩ := ord q' hq' (Or.inr hw'.1)
          have h3 := hw'.2.2
          rw [c2, ms_L_lt (by omega) (by omega)] at h3
          rw [hqo, c2, ni_lt (by omega) (by omega)]
          have : p' ≠ p := fun e => hne (uniq q' q p hq' hqC hw'.1 hq0 (by rw [c2, e]) hqo (by omega))
          omega) hqC
        cases r with
        | zero =>
          rw [if_pos ((ni_eq (by omega) (by omega)).mpr (by omega)), show ms_wat w b C 0 (ms_L p) = ms_fnd w b (ms_L p) C from rfl, hf]
          rfl
        | succ r =>
          rw [if_neg (fun z => by have := (ni_eq (by omega) (by omega)).mp z; omega)]
          have e := ih (p + 1) (by omega) r (a + 1) (by omega)
          have e2 : ms_wat w b C (r + 1) (ms_L p) = ms_wat w b C r (ms_L (p + 1)) := by
            show (match ms_fnd w b (ms_L p) C with | none => none | some f => ms_wat w b C r (w (375 + 6 * f + 5))) = _
            rw [hf]
            show ms_wat w b C r (w (375 + 6 * q + 5)) = _
            rw [hqo]
            rfl
          rw [e2]
          exact e
      · have e := ih (p + 1) (by omega) r a har
        have hcg : ms_fnd w b (ms_L p) C = ms_fnd w b (ms_L (p + 1)) C := ms_fnd_c (fun q' hq' => by
          constructor
          · intro hw'
            obtain ⟨p', c1, c2, c3⟩ := ord q' hq' (Or.inr hw'.1)
            have h3 := hw'.2.2
            rw [c2, ms_L_lt (by omega) (by omega)] at h3
            refine ⟨hw'.1, hw'.2.1, ?_⟩
            rw [c2, ms_L_lt (by omega) (by omega)]
            have : p' ≠ p := fun e => c (by
              have e9 := uniq q' q p hq' hqC hw'.1 hq0 (by rw [c2, e]) hqo (by omega)
              rw [← e9]
              exact ⟨hw'.2.1, hw'.1⟩)
            omega
          · intro hw'
            obtain ⟨p', c1, c2, c3⟩ := ord q' hq' (Or.inr hw'.1)
            have h3 := hw'.2.2
            rw [c2, ms_L_lt (by omega) (by omega)] at h3
            refine ⟨hw'.1, hw'.2.1, ?_⟩
            rw [c2, ms_L_lt (by omega) (by omega)]
            omega)
        have e2 : ms_wat w b C r (ms_L p) = ms_wat w b C r (ms_L (p + 1)) := by
          cases r with
          | zero => exact hcg
          | succ r =>
            unfold ms_wat
            rw [hcg]
        rw [e2]
        by_cases c1 : w (375 + 6 * q + 0) = Int32.ofNat b
        · rw [if_pos c1, if_neg (fun z => c ⟨c1, z⟩)]
          exact e
        · rw [if_neg c1]
          exact e
  refine EV_bk (k := 400) ?_
  rw [bk_51_0]
  exact loop K 0 (by omega) k 0 (by omega)
end EC2
/-! THE CLASS AGAINST THE REFERENCE, 3: requests come -/
theorem ms_come_hi {w : Nat → Int32} {q k : Nat} (h1 : k ≠ 10) (h2 : k ≠ 375 + 6 * q + 3) (h3 : k ≠ 375 + 6 * q + 5) : ms_come w q k = w k := by
  unfold ms_come
  rw [u1n h1, u1n h3, u1n h2]
theorem ms_come_s {w : Nat → Int32} {q : Nat} : ms_come w q (375 + 6 * q + 3) = 1 := by
  unfold ms_come
  rw [u1n (by omega), u1n (by omega), u1s]
theorem ms_come_o {w : Nat → Int32} {q : Nat} : ms_come w q (375 + 6 * q + 5) = w 10 := by
  unfold ms_come
  rw [u1n (by omega), u1s]
theorem ms_come_10 {w : Nat → Int32} {q : Nat} : ms_come w q 10 = w 10 + 1 := by
  unfold ms_come
  rw [u1s]
theorem ms_cm_c {w w' : Nat → Int32} : ∀ {k}, (∀ q, q < k → (w (375 + 6 * q + 3) = 0 ↔ w' (375 + 6 * q + 3) = 0)) → ms_cm w k = ms_cm w' k
  | 0, _ => rfl
  | k + 1, h => by
    unfold ms_cm
    rw [ms_cm_c (k := k) (fun q hq => h q (by omega))]
    by_cases e : w (375 + 6 * k + 3) = 0
    · rw [if_pos e, if_pos ((h k (by omega)).mp e)]
    · rw [if_neg e, if_neg (fun z => e ((h k (by omega)).mpr z))]
theorem ms_cm_come {w : Nat → Int32} {q : Nat} (h : w (375 + 6 * q + 3) = 0) : ∀ {k}, q < k → ms_cm (ms_come w q) k = ms_cm w k + 1
  | 0, hq => absurd hq (Nat.not_lt_zero _)
  | k + 1, hq => by
    unfold ms_cm
    by_cases e : k = q
    · subst e
      rw [ms_come_s, if_neg (by decide), if_pos h, ms_cm_c (w := ms_come w k) (w' := w) (fun q hq => by rw [ms_come_hi (by omega) (by omega) (by omega)])]
    · have ih := ms_cm_come h (k := k) (by omega)
      rw [ih, ms_come_hi (by omega) (by omega) (by omega)]
      split <;> omega
section EC3
variable {n : Nat} {lk : Nat → Nat → Nat → Bool} {d : Nat → Nat → Nat → Int32} {o : ev_W}
/-- the memory behind come -/
def mc_come (d : Nat → Nat → Nat → Int32) (i q K : Nat) : Nat → Nat → Nat → Int32 := ev_u3 (ev_u3 (ev_u3 d 21 i q 1) 23 i K (Int32.ofNat q)) 17 i 1 (Int32.ofNat K + 1)
theorem ec_come (hl : LK lk) {i : Nat} (hi : i < 15) {w : Nat → Int32} {C K q : Nat} (hs : CS d i w C K) (hq : q < C) : EV (48, 0, [ev_R 17 i, ev_I (Int32.ofNat q)], [], 0, 0) (n, lk, d, o) = some (.inl none, (n, lk, if w (375 + 6 * q + 3) = 0 then mc_come d i q K else d, o)) := by
  obtain ⟨-, -, -, -, -, h9, h10, -, -, -, hqq, ⟨w9, w10, hKm, h40⟩, -, -⟩ := hs
  have a5 : lk 17 i 5 = true := hl 17 i 5 rfl hi (by decide)
  have a7 : lk 17 i 7 = true := hl 17 i 7 rfl hi (by decide)
  have hhas : (if (0 : Int32) ≤ Int32.ofNat q ∧ Int32.ofNat q < d 17 i 0 then (1 : Int32) else 0) = 1 := by
    rw [if_pos]
    refine ⟨(ni_le (a := 0) (by omega) (by omega)).mpr (Nat.zero_le _), ?_⟩
    rw [h9, w9]
    exact (ni_lt (by omega) (by omega)).mpr hq
  refine EV_bk (k := 400) ?_
  rw [bk_48_0, ec_has]
  simp only [ev_bi, hhas, a5, a7, cond_true, ni_in (n := q) (N := 40) (by omega) (by omega), ni_c (n := q) (by omega), (hqq q hq).2.2.2.1, h10, w10]
  rw [if_neg (by decide)]
  by_cases h0 : w (375 + 6 * q + 3) = 0
  · have hK : K < C := by rw [hKm]; exact ms_cm_lt h0 hq
    have hlt : Int32.ofNat K < (40 : Int32) := (ni_lt (b := 40) (by omega) (by omega)).mpr (by omega)
    rw [if_pos h0, if_pos h0, if_pos hlt]
    simp only [ni_in (n := K) (N := 40) (by omega) (by omega), ni_c (n := K) (by omega), cond_true]
    rfl
  · rw [if_neg h0, if_neg h0]
end EC3
/-! THE CLASS AGAINST THE REFERENCE, 4: a request that comes keeps them alike -/
theorem mc_come_n {d : Nat → Nat → Nat → Int32} {i q K r : Nat} (h1 : r ≠ 21) (h2 : r ≠ 23) (h3 : r ≠ 17) : mc_come d i q K r = d r := by
  unfold mc_come
  simp only [u3w]
  rw [w3n h3, w3n h2, w3n h1]
theorem mc_come_21 {d : Nat → Nat → Nat → Int32} {i q K : Nat} : mc_come d i q K 21 i = ev_u1 (d 21 i) q 1 := by
  unfold mc_come
  simp only [u3w]
  rw [w3n (r' := 21) (r := 17) (by decide), w3n (r' := 21) (r := 23) (by decide), w3s]
theorem mc_come_23 {d : Nat → Nat → Nat → Int32} {i q K : Nat} : mc_come d i q K 23 i = ev_u1 (d 23 i) K (Int32.ofNat q) := by
  unfold mc_come
  simp only [u3w]
  rw [w3n (r' := 23) (r := 17) (by decide), w3s, w3n (r' := 23) (r := 21) (by decide)]
theorem mc_come_17 {d : Nat → Nat → Nat → Int32} {i q K : Nat} : mc_come d i q K 17 i = ev_u1 (d 17 i) 1 (Int32.ofNat K + 1) := by
  unfold mc_come
  simp only [u3w]
  rw [w3s, w3n (r' := 17) (r := 23) (by decide), w3n (r' := 17) (r := 21) (by decide)]
theorem CS_come {d : Nat → Nat → Nat → Int32} {i : Nat} {w : Nat → Int32} {C K q : Nat} (hs : CS d i w C K) (hq : q < C) (h0 : w (375 + 6 * q + 3) = 0) : CS (mc_come d i q K) i (ms_come w q) C (K + 1) := by
  obtain ⟨s1, s2, s3, s4, s5, s6, s7, s8, s9, s10, s11, ⟨w9, w10, hKm, h40⟩, hi1, hi2⟩ := hs
  have lo : ∀ k, k < 375 → k ≠ 10 → ms_come w q k = w k := fun k hk hk' => ms_come_hi hk' (by omega) (by omega)
  have e1 : Int32.ofNat K + 1 = Int32.ofNat (K + 1) := by rw [Int32.ofNat_add]; rfl
  refine ⟨?_, ?_, ?_, ?_, ?_, ?_, ?_, ?_, ?_, ?_, ?_, ⟨?_, ?_, ?_, h40⟩, ?_, ?_⟩
  · intro k hk
    rw [mc_come_n (by decide) (by decide) (by decide), lo k (by omega) (by omega), s1 k hk]
  · rw [mc_come_n (by decide) (by decide) (by decide), lo 7 (by omega) (by omega), s2]
  · rw [mc_come_n (by decide) (by decide) (by decide), lo 8 (by omega) (by omega), s3]
  · rw [mc_come_n (by decide) (by decide) (by decide), lo 17 (by omega) (by omega), s4]
  · rw [mc_come_n (by decide) (by decide) (by decide), lo 18 (by omega) (by omega), s5]
  · rw [mc_come_17, u1n (by decide), lo 9 (by omega) (by omega), s6]
  · rw [mc_come_17, u1s, ms_come_10, w10]
  · intro k hk
    rw [mc_come_n (by decide) (by decide) (by decide), lo (11 + k) (by omega) (by omega), s8 k hk]
  · intro b hb
    simp only [mc_come_n (r := 4) (by decide) (by decide) (by decide), mc_come_n (r := 5) (by decide) (by decide) (by decide), mc_come_n (r := 6) (by decide) (by decide) (by decide), mc_come_n (r := 7) (by decide) (by decide) (by decide), mc_come_n (r := 8) (by decide) (by decide) (by decide), mc_come_n (r := 9) (by decide) (by decide) (by decide), mc_come_n (r := 10) (by decide) (by decide) (by decide)]
    rw [lo (19 + 9 * b + 0) (by omega) (by omega), lo (19 + 9 * b + 1) (by omega) (by omega), lo (19 + 9 * b + 3) (by omega) (by omega), lo (19 + 9 * b + 4) (by omega) (by omega), lo (19 + 9 * b + 5) (by omega) (by omega), lo (19 + 9 * b + 6) (by omega) (by omega), lo (19 + 9 * b + 7) (by omega) (by omega)]
    exact s9 b hb
  · intro c hc
    simp only [mc_come_n (r := 12) (by decide) (by decide) (by decide), mc_come_n (r := 13) (by decide) (by decide) (by decide), mc_come_n (r := 14) (by decide) (by decide) (by decide), mc_come_n (r := 15) (by decide) (by decide) (by decide), mc_come_n (r := 16) (by decide) (by decide) (by decide)]
    rw [lo (55 + 5 * c + 0) (by omega) (by omega), lo (55 + 5 * c + 1) (by omega) (by omega), lo (55 + 5 * c + 2) (by omega) (by omega), lo (55 + 5 * c + 3) (by omega) (by omega), lo (55 + 5 * c + 4) (by omega) (by omega)]
    exact s10 c hc
  · intro p hp
    obtain ⟨a1, a2, a3, a4, a5⟩ := s11 p hp
    simp only [mc_come_n (r := 18) (by decide) (by decide) (by decide), mc_come_n (r := 19) (by decide) (by decide) (by decide), mc_come_n (r := 20) (by decide) (by decide) (by decide), mc_come_n (r := 22) (by decide) (by decide) (by decide), mc_come_21]
    rw [ms_come_hi (k := 375 + 6 * p + 0) (by omega) (by omega) (by omega), ms_come_hi (k := 375 + 6 * p + 1) (by omega) (by omega) (by omega), ms_come_hi (k := 375 + 6 * p + 2) (by omega) (by omega) (by omega), ms_come_hi (k := 375 + 6 * p + 4) (by omega) (by omega) (by omega)]
    refine ⟨a1, a2, a3, ?_, a5⟩
    by_cases e : p = q
    · subst e
      rw [u1s, ms_come_s]
    · rw [u1n e, ms_come_hi (by omega) (by omega) (by omega), a4]
  · rw [lo 9 (by omega) (by omega), w9]
  · rw [ms_come_10, w10, e1]
  · rw [ms_cm_come h0 hq, hKm]
  · intro p hp hne
    by_cases e : p = q
    · subst e
      refine ⟨K, by omega, ?_, ?_⟩
      · rw [ms_come_o, w10]
      · rw [mc_come_23, u1s]
    · rw [ms_come_hi (by omega) (by omega) (by omega)] at hne
      obtain ⟨x, hx, y1, y2⟩ := hi1 p hp hne
      refine ⟨x, by omega, ?_, ?_⟩
      · rw [ms_come_hi (by omega) (by omega) (by omega), y1]
      · rw [mc_come_23, u1n (by omega), y2]
  · intro p hp
    by_cases e : p = K
    · subst e
      refine ⟨q, hq, ?_, ?_, ?_⟩
      · rw [ms_come_s]; decide
      · rw [ms_come_o, w10]
      · rw [mc_come_23, u1s]
    · obtain ⟨x, hx, y0, y1, y2⟩ := hi2 p (by omega)
      have hxq : x ≠ q := fun z => y0 (by rw [z]; exact h0)
      refine ⟨x, hx, ?_, ?_, ?_⟩
      · rw [ms_come_hi (by omega) (by omega) (by omega)]; exact y0
      · rw [ms_come_hi (by omega) (by omega) (by omega), y1]
      · rw [mc_come_23, u1n e, y2]
/-! THE CLASS AGAINST THE REFERENCE, 5: all requests of a tick come -/
/-- what a step on state i leaves as it was -/
def FR (d d' : Nat → Nat → Nat → Int32) (i : Nat) : Prop := ∀ r j, 24 ≤ r ∨ j ≠ i → d' r j = d r j
theorem FR_t {d d' d'' : Nat → Nat → Nat → Int32} {i : Nat} (h : FR d d' i) (h' : FR d' d'' i) : FR d d'' i := fun r j z => (h' r j z).trans (h r j z)
theorem FR_r (d : Nat → Nat → Nat → Int32) (i : Nat) : FR d d i := fun _ _ _ => rfl
theorem w3j {d : Nat → Nat → Nat → Int32} {r i r' j : Nat} {f : Nat → Int32} (h : j ≠ i) : ev_w3 d r i f r' j = d r' j := by
  by_cases e : r' = r
  · subst e
    simp [ev_w3, ev_w2, h]
  · rw [w3n e]
theorem FR_come {d : Nat → Nat → Nat → Int32} {i q K : Nat} : FR d (mc_come d i q K) i := by
  intro r j h
  by_cases e : j = i
  · have hr : 24 ≤ r := h.elim id (fun z => absurd e z)
    rw [mc_come_n (by omega) (by omega) (by omega)]
  · unfold mc_come
    simp only [u3w]
    rw [w3j e, w3j e, w3j e]
theorem ms_asked_hi {w : Nat → Int32} {p x : Nat} (hx : x < 6) : ∀ {q}, q ≤ p → ms_asked w q (375 + 6 * p + x) = w (375 + 6 * p + x)
  | 0, _ => rfl
  | q + 1, h => by
    unfold ms_asked
    split
    · rw [ms_come_hi (by omega) (by omega) (by omega)]
      exact ms_asked_hi hx (by omega)
    · exact ms_asked_hi hx (by omega)
theorem ms_asked_end {w : Nat → Int32} {T : Nat} : ∀ {C}, T ≤ C → (∀ q, T ≤ q → q < C → w (375 + 6 * q + 3) ≠ 0) → ms_asked w C = ms_asked w T
  | 0, h, _ => by rw [show T = 0 by omega]
  | C + 1, h, hz => by
    by_cases e : T = C + 1
    · rw [e]
    · have ih := ms_asked_end (C := C) (T := T) (w := w) (by omega) (fun q a b => hz q a (by omega))
      rw [← ih]
      show (if ms_asked w C (375 + 6 * C + 3) = 0 ∧ ms_asked w C (375 + 6 * C + 2) = ms_asked w C 8 then ms_come (ms_asked w C) C else ms_asked w C) = ms_asked w C
      rw [if_neg (fun z => hz C (by omega) (by omega) ((ms_asked_hi (w := w) (x := 3) (by omega) (Nat.le_refl C)).symm.trans z.1))]
section EC4
variable {n : Nat} {lk : Nat → Nat → Nat → Bool} {d : Nat → Nat → Nat → Int32} {o : ev_W}
theorem ec_letCome (hl : LK lk) {i : Nat} (hi : i < 15) {w : Nat → Int32} {C K T : Nat} (hs : CS d i w C K) (hT : d 24 1 4 = Int32.ofNat T) (hTC : T ≤ C) (hz : ∀ q, T ≤ q → q < C → w (375 + 6 * q + 3) ≠ 0) :
    ∃ d' K', EV (72, 0, [ev_R 32 0, ev_R 0 i], [], 0, 0) (n, lk, d, o) = some (.inl none, (n, lk, d', o)) ∧ FR d d' i ∧ CS d' i (ms_asked w C) C K' := by
  have a0 : lk 32 0 0 = true := hl 32 0 0 rfl (by decide) (by decide)
  have a8 : lk 0 i 8 = true := hl 0 i 8 rfl hi (by decide)
  have a4 : lk 17 i 4 = true := hl 17 i 4 rfl hi (by decide)
  have hC40 : C ≤ 40 := hs.2.2.2.2.2.2.2.2.2.2.2.1.2.2.2
  have loop : ∀ j q (d : Nat → Nat → Nat → Int32) K, q + j = T → d 24 1 4 = Int32.ofNat T → CS d i (ms_asked w q) C K → ∃ d' K', EV (72, 2, [ev_R 32 0, ev_R 0 i, ev_I (Int32.ofNat q)], [], 0, 0) (n, lk, d, o) = some (.inl none, (n, lk, d', o)) ∧ FR d d' i ∧ CS d' i (ms_asked w T) C K' := by
    intro j
    induction j with
    | zero =>
      intro q d K hq hT hs
      refine ⟨d, K, ?_, FR_r d i, ?_⟩
      · refine EV_bk (k := 400) ?_
        rw [bk_72_2, a0, cond_true, hT, if_neg (fun z => by have := (ni_lt (by omega) (by omega)).mp z; omega)]
      · rw [show T = q by omega]; exact hs
    | succ j ih =>
      intro q d K hq hT hs
      have hlt : Int32.ofNat q < Int32.ofNat T := (ni_lt (by omega) (by omega)).mpr (by omega)
      have hqC : q < C := by omega
      have hst : ms_asked w (q + 1) = if ms_asked w q (375 + 6 * q + 3) = 0 ∧ ms_asked w q (375 + 6 * q + 2) = ms_asked w q 8 then ms_come (ms_asked w q) q else ms_asked w q := rfl
      have h20 : d 20 i q = ms_asked w q (375 + 6 * q + 2) := (hs.2.2.2.2.2.2.2.2.2.2.1 q hqC).2.2.1
      have h00 : d 0 i 0 = ms_asked w q 8 := hs.2.2.1
      have hco := ec_come (n := n) (o := o) hl hi hs hqC
      by_cases h2 : ms_asked w q (375 + 6 * q + 2) = ms_asked w q 8
      · by_cases h1 : ms_asked w q (375 + 6 * q + 3) = 0
        · rw [if_pos h1] at hco
          rw [if_pos ⟨h1, h2⟩] at hst
          obtain ⟨d', K', e1, e2, e3⟩ := ih (q + 1) (mc_come d i q K) (K + 1) (by omega) (by rw [FR_come (i := i) 24 1 (.inl (by decide))]; exact hT) (by rw [hst]; exact CS_come hs hqC h1)
          refine ⟨d', K', ?_, FR_t FR_come e2, e3⟩
          refine EV_bk (k := 400) ?_
          rw [bk_72_2, a0, cond_true, hT, if_pos hlt]
          simp only [a8, a4, cond_true, ni_in (n := q) (N := 40) (by omega) (by omega), ni_c (n := q) (by omega), h20, h00]
          rw [if_pos h2, hco]
          simp only [ev_bv, ni_1]
          exact e1
        · rw [if_neg h1] at hco
          rw [if_neg (fun z => h1 z.1)] at hst
          obtain ⟨d', K', e1, e2, e3⟩ := ih (q + 1) d K (by omega) hT (by rw [hst]; exact hs)
          refine ⟨d', K', ?_, e2, e3⟩
          refine EV_bk (k := 400) ?_
          rw [bk_72_2, a0, cond_true, hT, if_pos hlt]
          simp only [a8, a4, cond_true, ni_in (n := q) (N := 40) (by omega) (by omega), ni_c (n := q) (by omega), h20, h00]
          rw [if_pos h2, hco]
          simp only [ev_bv, ni_1]
          exact e1
      · rw [if_neg (fun z => h2 z.2)] at hst
        obtain ⟨d', K', e1, e2, e3⟩ := ih (q + 1) d K (by omega) hT (by rw [hst]; exact hs)
        refine ⟨d', K', ?_, e2, e3⟩
        refine EV_bk (k := 400) ?_
        rw [bk_72_2, a0, cond_true, hT, if_pos hlt]
        simp only [a8, a4, cond_true, ni_in (n := q) (N := 40) (by omega) (by omega), ni_c (n := q) (by omega), h20, h00]
        rw [if_neg h2]
        simp only [ni_1]
        exact e1
  obtain ⟨d', K', e1, e2, e3⟩ := loop T 0 d K (by omega) hT hs
  refine ⟨d', K', ?_, e2, ?_⟩
  · refine EV_bk (k := 400) ?_
    rw [bk_72_0]
    exact e1
  · rw [ms_asked_end hTC hz]
    exact e3
end EC4
/-! THE CLASS AGAINST THE REFERENCE, 6: changes of the low numbers; debts rise -/
theorem ms_cm_hi {w w' : Nat → Int32} (h : ∀ k, 375 ≤ k → w' k = w k) (C : Nat) : ms_cm w' C = ms_cm w C := ms_cm_c (fun q _ => by rw [h _ (by omega)])
/-- what lies of the requests stays when only low numbers change -/
theorem CS_lo {d d' : Nat → Nat → Nat → Int32} {i : Nat} {w w' : Nat → Int32} {C K : Nat} (hs : CS d i w C K) (hd : ∀ r, 17 ≤ r → d' r i = d r i) (hw : ∀ k, 375 ≤ k ∨ k = 9 ∨ k = 10 → w' k = w k)
    (h1 : ∀ k, k < 7 → d' 1 i k = w' k) (h2 : d' 0 i 1 = w' 7) (h3 : d' 0 i 0 = w' 8) (h4 : d' 0 i 2 = w' 17) (h5 : d' 0 i 3 = w' 18) (h6 : ∀ k, k < 6 → d' 2 i k = w' (11 + k))
    (h7 : ∀ b, b < 4 → d' 4 i b = w' (19 + 9 * b + 0) ∧ d' 5 i b = w' (19 + 9 * b + 1) ∧ d' 6 i b = w' (19 + 9 * b + 3) ∧ d' 7 i b = w' (19 + 9 * b + 4) ∧ d' 8 i b = w' (19 + 9 * b + 5) ∧ d' 9 i b = w' (19 + 9 * b + 6) ∧ d' 10 i b = w' (19 + 9 * b + 7))
    (h8 : ∀ c, c < 64 → d' 12 i c = w' (55 + 5 * c + 0) ∧ d' 13 i c = w' (55 + 5 * c + 1) ∧ d' 14 i c = w' (55 + 5 * c + 2) ∧ d' 15 i c = w' (55 + 5 * c + 3) ∧ d' 16 i c = w' (55 + 5 * c + 4))
    (h9 : ∀ q, q < C → d' 18 i q = d 18 i q) : CS d' i w' C K := by
  obtain ⟨-, -, -, -, -, s6, s7, -, -, -, s11, ⟨w9, w10, hKm, h40⟩, hi1, hi2⟩ := hs
  refine ⟨h1, h2, h3, h4, h5, ?_, ?_, h6, h7, h8, ?_, ⟨?_, ?_, ?_, h40⟩, ?_, ?_⟩
  · rw [hd 17 (by omega), hw 9 (by omega), s6]
  · rw [hd 17 (by omega), hw 10 (by omega), s7]
  · intro q hq
    rw [hd 18 (by omega), hd 19 (by omega), hd 20 (by omega), hd 21 (by omega), hd 22 (by omega), hw _ (.inl (by omega)), hw _ (.inl (by omega)), hw _ (.inl (by omega)), hw _ (.inl (by omega)), hw _ (.inl (by omega))]
    exact s11 q hq
  · rw [hw 9 (by omega), w9]
  · rw [hw 10 (by omega), w10]
  · rw [ms_cm_hi (fun k hk => hw k (.inl hk)), hKm]
  · intro q hq hne
    rw [hw _ (.inl (by omega))] at hne
    rw [hw _ (.inl (by omega)), hd 23 (by omega)]
    exact hi1 q hq hne
  · intro p hp
    obtain ⟨q, hq, y0, y1, y2⟩ := hi2 p hp
    refine ⟨q, hq, ?_, ?_, ?_⟩
    · rw [hw _ (.inl (by omega))]; exact y0
    · rw [hw _ (.inl (by omega))]; exact y1
    · rw [hd 23 (by omega)]; exact y2
theorem u3n {d : Nat → Nat → Nat → Int32} {r i k r' : Nat} {v : Int32} (h : r' ≠ r) : ev_u3 d r i k v r' = d r' := by rw [u3w, w3n h]
theorem u3r {d : Nat → Nat → Nat → Int32} {r i k : Nat} {v : Int32} : ev_u3 d r i k v r i = ev_u1 (d r i) k v := by rw [u3w, w3s]
theorem CS_sum {d : Nat → Nat → Nat → Int32} {i : Nat} {w : Nat → Int32} {C K k : Nat} {v : Int32} (hs : CS d i w C K) (hk : k < 6) : CS (ev_u3 d 2 i k v) i (ev_u1 w (11 + k) v) C K := by
  have hs0 := hs
  obtain ⟨s1, s2, s3, s4, s5, -, -, s8, s9, s10, -⟩ := hs
  refine CS_lo hs0 (fun r hr => by rw [u3n (by omega)]) (fun j hj => u1n (by omega)) ?_ ?_ ?_ ?_ ?_ ?_ ?_ ?_ (fun q _ => by rw [u3n (by decide)])
  · intro j hj
    rw [u3n (by decide), u1n (by omega), s1 j hj]
  · rw [u3n (by decide), u1n (by omega), s2]
  · rw [u3n (by decide), u1n (by omega), s3]
  · rw [u3n (by decide), u1n (by omega), s4]
  · rw [u3n (by decide), u1n (by omega), s5]
  · intro j hj
    rw [u3r]
    by_cases e : j = k
    · subst e
      rw [u1s, u1s]
    · rw [u1n e, u1n (by omega), s8 j hj]
  · intro b hb
    simp only [u3n (r' := 4) (r := 2) (by decide), u3n (r' := 5) (r := 2) (by decide), u3n (r' := 6) (r := 2) (by decide), u3n (r' := 7) (r := 2) (by decide), u3n (r' := 8) (r := 2) (by decide), u3n (r' := 9) (r := 2) (by decide), u3n (r' := 10) (r := 2) (by decide)]
    rw [u1n (j := 19 + 9 * b + 0) (by omega), u1n (j := 19 + 9 * b + 1) (by omega), u1n (j := 19 + 9 * b + 3) (by omega), u1n (j := 19 + 9 * b + 4) (by omega), u1n (j := 19 + 9 * b + 5) (by omega), u1n (j := 19 + 9 * b + 6) (by omega), u1n (j := 19 + 9 * b + 7) (by omega)]
    exact s9 b hb
  · intro c hc
    simp only [u3n (r' := 12) (r := 2) (by decide), u3n (r' := 13) (r := 2) (by decide), u3n (r' := 14) (r := 2) (by decide), u3n (r' := 15) (r := 2) (by decide), u3n (r' := 16) (r := 2) (by decide)]
    rw [u1n (j := 55 + 5 * c + 0) (by omega), u1n (j := 55 + 5 * c + 1) (by omega), u1n (j := 55 + 5 * c + 2) (by omega), u1n (j := 55 + 5 * c + 3) (by omega), u1n (j := 55 + 5 * c + 4) (by omega)]
    exact s10 c hc
theorem CS_debt {d : Nat → Nat → Nat → Int32} {i : Nat} {w : Nat → Int32} {C K k : Nat} {v : Int32} (hs : CS d i w C K) (hk : k < 4) : CS (ev_u3 d 4 i k v) i (ev_u1 w (19 + 9 * k + 0) v) C K := by
  have hs0 := hs
  obtain ⟨s1, s2, s3, s4, s5, -, -, s8, s9, s10, -⟩ := hs
  refine CS_lo hs0 (fun r hr => by rw [u3n (by omega)]) (fun j hj => u1n (by omega)) ?_ ?_ ?_ ?_ ?_ ?_ ?_ ?_ (fun q _ => by rw [u3n (by decide)])
  · intro j hj
    rw [u3n (by decide), u1n (by omega), s1 j hj]
  · rw [u3n (by decide), u1n (by omega), s2]
  · rw [u3n (by decide), u1n (by omega), s3]
  · rw [u3n (by decide), u1n (by omega), s4]
  · rw [u3n (by decide), u1n (by omega), s5]
  · intro j hj
    rw [u3n (by decide), u1n (by omega), s8 j hj]
  · intro b hb
    simp only [u3n (r' := 5) (r := 4) (by decide), u3n (r' := 6) (r := 4) (by decide), u3n (r' := 7) (r := 4) (by decide), u3n (r' := 8) (r := 4) (by decide), u3n (r' := 9) (r := 4) (by decide), u3n (r' := 10) (r := 4) (by decide), u3r]
    rw [u1n (j := 19 + 9 * b + 1) (by omega), u1n (j := 19 + 9 * b + 3) (by omega), u1n (j := 19 + 9 * b + 4) (by omega), u1n (j := 19 + 9 * b + 5) (by omega), u1n (j := 19 + 9 * b + 6) (by omega), u1n (j := 19 + 9 * b + 7) (by omega)]
    refine ⟨?_, (s9 b hb).2⟩
    by_cases e : b = k
    · subst e
      rw [u1s, u1s]
    · rw [u1n e, u1n (by omega), (s9 b hb).1]
  · intro c hc
    simp only [u3n (r' := 12) (r := 4) (by decide), u3n (r' := 13) (r := 4) (by decide), u3n (r' := 14) (r := 4) (by decide), u3n (r' := 15) (r := 4) (by decide), u3n (r' := 16) (r := 4) (by decide)]
    rw [u1n (j := 55 + 5 * c + 0) (by omega), u1n (j := 55 + 5 * c + 1) (by omega), u1n (j := 55 + 5 * c + 2) (by omega), u1n (j := 55 + 5 * c + 3) (by omega), u1n (j := 55 + 5 * c + 4) (by omega)]
    exact s10 c hc
/-! THE CLASS AGAINST THE REFERENCE, 7: debts rise -/
theorem FR_u3 {d : Nat → Nat → Nat → Int32} {r i k : Nat} {v : Int32} (hr : r < 24) : FR d (ev_u3 d r i k v) i := by
  intro r' j h
  rw [u3w]
  by_cases e : j = i
  · have : 24 ≤ r' := h.elim id (fun z => absurd e z)
    rw [w3n (by omega)]
  · rw [w3j e]
section EC5
variable {n : Nat} {lk : Nat → Nat → Nat → Bool} {d : Nat → Nat → Nat → Int32} {o : ev_W}
theorem ec_raise (hl : LK lk) {i : Nat} (hi : i < 15) {t w : Nat → Int32} {C K B : Nat} (hs : CS d i w C K) (hL : CL d 1 t) (hB : t 0 = Int32.ofNat B) (h4 : B ≤ 4) (h3 : 0 < t 3) (h8 : 0 ≤ w 8) :
    ∃ d', EV (73, 0, [ev_R 32 0, ev_R 0 i], [], 0, 0) (n, lk, d, o) = some (.inl none, (n, lk, d', o)) ∧ FR d d' i ∧ CS d' i (ms_debts t w B) C K := by
  have a0 : lk 32 0 0 = true := hl 32 0 0 rfl (by decide) (by decide)
  have a6 : lk 0 i 6 = true := hl 0 i 6 rfl hi (by decide)
  have a5 : lk 0 i 5 = true := hl 0 i 5 rfl hi (by decide)
  have b0 : lk 3 i 0 = true := hl 3 i 0 rfl hi (by decide)
  have loop : ∀ j b (d : Nat → Nat → Nat → Int32), b + j = B → d 24 1 0 = Int32.ofNat B → CS d i (ms_dl w b) C K → ∃ d', EV (73, 35, [ev_R 32 0, ev_R 0 i, ev_I (Int32.ofNat b)], [], 0, 0) (n, lk, d, o) = some (.inl none, (n, lk, d', o)) ∧ FR d d' i ∧ CS d' i (ms_dl w B) C K := by
    intro j
    induction j with
    | zero =>
      intro b d hb hT hs
      refine ⟨d, ?_, FR_r d i, ?_⟩
      · refine EV_bk (k := 400) ?_
        rw [bk_73_35, a0, cond_true, hT, if_neg (fun z => by have := (ni_lt (by omega) (by omega)).mp z; omega)]
      · rw [show B = b by omega]; exact hs
    | succ j ih =>
      intro b d hb hT hs
      have hlt : Int32.ofNat b < Int32.ofNat B := (ni_lt (by omega) (by omega)).mpr (by omega)
      have hb4 : b < 4 := by omega
      have hst : ms_dl w (b + 1) = ev_u1 (ev_u1 (ms_dl w b) (19 + 9 * b + 0) (ms_dl w b (19 + 9 * b + 0) + 1)) 11 (ms_dl w b 11 + 1) := rfl
      have f1 : d 4 i b = ms_dl w b (19 + 9 * b + 0) := (hs.2.2.2.2.2.2.2.2.1 b hb4).1
      have f2 : d 2 i 0 = ms_dl w b 11 := hs.2.2.2.2.2.2.2.1 0 (by decide)
      have c1 := CS_sum (k := 0) (v := ms_dl w b 11 + 1) (CS_debt (k := b) (v := ms_dl w b (19 + 9 * b + 0) + 1) hs hb4) (by decide)
      have fr : FR d (ev_u3 (ev_u3 d 4 i b (ms_dl w b (19 + 9 * b + 0) + 1)) 2 i 0 (ms_dl w b 11 + 1)) i := FR_t (FR_u3 (by decide)) (FR_u3 (by decide))
      obtain ⟨d', e1, e2, e3⟩ := ih (b + 1) _ (by omega) ((congrFun (fr 24 1 (.inl (by decide))) 0).trans hT) (by rw [hst]; exact c1)
      refine ⟨d', ?_, FR_t fr e2, e3⟩
      refine EV_bk (k := 400) ?_
      rw [bk_73_35, a0, cond_true, hT, if_pos hlt]
      simp only [a6, a5, b0, cond_true, ni_in (n := b) (N := 4) (by omega) (by omega), ni_c (n := b) (by omega), f1, f2, ni_1]
      exact e1
  have ht : d 0 i 0 = w 8 := hs.2.2.1
  have hv : d 24 1 3 = t 3 := hL.2.2.2.1
  have hn3 : ¬ t 3 ≤ 0 := Int32.not_le.mpr h3
  have hz3 : ¬ t 3 = 0 := fun z => hn3 (by rw [z]; exact Int32.le_refl 0)
  unfold ms_debts
  by_cases e8 : w 8 = 0
  · refine ⟨d, ?_, FR_r d i, ?_⟩
    · refine EV_bk (k := 400) ?_
      rw [bk_73_0, ht, if_pos (by rw [e8]; exact Int32.le_refl 0)]
    · rw [if_pos e8]; exact hs
  · have hn8 : ¬ w 8 ≤ 0 := fun z => e8 (Int32.le_antisymm z h8)
    by_cases hm : w 8 - w 8 / t 3 * t 3 = 0
    · obtain ⟨d', e1, e2, e3⟩ := loop B 0 d (by omega) (hL.1.trans hB) hs
      refine ⟨d', ?_, e2, ?_⟩
      · refine EV_bk (k := 400) ?_
        rw [bk_73_0, ht, if_neg hn8]
        simp only [a0, cond_true, hv]
        rw [if_neg hn3, if_neg hz3, if_pos hm]
        exact e1
      · rw [if_neg e8, if_pos hm]; exact e3
    · refine ⟨d, ?_, FR_r d i, ?_⟩
      · refine EV_bk (k := 400) ?_
        rw [bk_73_0, ht, if_neg hn8]
        simp only [a0, cond_true, hv]
        rw [if_neg hn3, if_neg hz3, if_neg hm]
      · rw [if_neg e8, if_neg hm]; exact hs
end EC5
/-! THE PROGRAM AGAINST THE REFERENCE, 8: every low number changes alike -/
theorem CS_heat {d : Nat → Nat → Nat → Int32} {i : Nat} {w : Nat → Int32} {C K k : Nat} {v : Int32} (hs : CS d i w C K) (hk : k < 4) : CS (ev_u3 d 5 i k v) i (ev_u1 w (19 + 9 * k + 1) v) C K := by
  have hs0 := hs
  obtain ⟨s1, s2, s3, s4, s5, -, -, s8, s9, s10, -⟩ := hs
  refine CS_lo hs0 (fun r hr => by rw [u3n (by omega)]) (fun j hj => u1n (by omega)) ?_ ?_ ?_ ?_ ?_ ?_ ?_ ?_ (fun q _ => by rw [u3n (by decide)])
  · intro j hj
    rw [u3n (by decide), u1n (by omega), s1 j hj]
  · rw [u3n (by decide), u1n (by omega), s2]
  · rw [u3n (by decide), u1n (by omega), s3]
  · rw [u3n (by decide), u1n (by omega), s4]
  · rw [u3n (by decide), u1n (by omega), s5]
  · intro j hj
    rw [u3n (by decide), u1n (by omega), s8 j hj]
  · intro b hb
    simp only [u3n (r' := 4) (r := 5) (by decide), u3n (r' := 6) (r := 5) (by decide), u3n (r' := 7) (r := 5) (by decide), u3n (r' := 8) (r := 5) (by decide), u3n (r' := 9) (r := 5) (by decide), u3n (r' := 10) (r := 5) (by decide), u3r]
    rw [u1n (j := 19 + 9 * b + 0) (by omega), u1n (j := 19 + 9 * b + 3) (by omega), u1n (j := 19 + 9 * b + 4) (by omega), u1n (j := 19 + 9 * b + 5) (by omega), u1n (j := 19 + 9 * b + 6) (by omega), u1n (j := 19 + 9 * b + 7) (by omega)]
    refine ⟨(s9 b hb).1, ?_, (s9 b hb).2.2.1, (s9 b hb).2.2.2.1, (s9 b hb).2.2.2.2.1, (s9 b hb).2.2.2.2.2.1, (s9 b hb).2.2.2.2.2.2⟩
    by_cases e : b = k
    · subst e
      rw [u1s, u1s]
    · rw [u1n e, u1n (by omega), (s9 b hb).2.1]
  · intro c hc
    simp only [u3n (r' := 12) (r := 5) (by decide), u3n (r' := 13) (r := 5) (by decide), u3n (r' := 14) (r := 5) (by decide), u3n (r' := 15) (r := 5) (by decide), u3n (r' := 16) (r := 5) (by decide)]
    rw [u1n (j := 55 + 5 * c + 0) (by omega), u1n (j := 55 + 5 * c + 1) (by omega), u1n (j := 55 + 5 * c + 2) (by omega), u1n (j := 55 + 5 * c + 3) (by omega), u1n (j := 55 + 5 * c + 4) (by omega)]
    exact s10 c hc
theorem CS_refreshes {d : Nat → Nat → Nat → Int32} {i : Nat} {w : Nat → Int32} {C K k : Nat} {v : Int32} (hs : CS d i w C K) (hk : k < 4) : CS (ev_u3 d 6 i k v) i (ev_u1 w (19 + 9 * k + 3) v) C K := by
  have hs0 := hs
  obtain ⟨s1, s2, s3, s4, s5, -, -, s8, s9, s10, -⟩ := hs
  refine CS_lo hs0 (fun r hr => by rw [u3n (by omega)]) (fun j hj => u1n (by omega)) ?_ ?_ ?_ ?_ ?_ ?_ ?_ ?_ (fun q _ => by rw [u3n (by decide)])
  · intro j hj
    rw [u3n (by decide), u1n (by omega), s1 j hj]
  · rw [u3n (by decide), u1n (by omega), s2]
  · rw [u3n (by decide), u1n (by omega), s3]
  · rw [u3n (by decide), u1n (by omega), s4]
  · rw [u3n (by decide), u1n (by omega), s5]
  · intro j hj
    rw [u3n (by decide), u1n (by omega), s8 j hj]
  · intro b hb
    simp only [u3n (r' := 4) (r := 6) (by decide), u3n (r' := 5) (r := 6) (by decide), u3n (r' := 7) (r := 6) (by decide), u3n (r' := 8) (r := 6) (by decide), u3n (r' := 9) (r := 6) (by decide), u3n (r' := 10) (r := 6) (by decide), u3r]
    rw [u1n (j := 19 + 9 * b + 0) (by omega), u1n (j := 19 + 9 * b + 1) (by omega), u1n (j := 19 + 9 * b + 4) (by omega), u1n (j := 19 + 9 * b + 5) (by omega), u1n (j := 19 + 9 * b + 6) (by omega), u1n (j := 19 + 9 * b + 7) (by omega)]
    refine ⟨(s9 b hb).1, (s9 b hb).2.1, ?_, (s9 b hb).2.2.2.1, (s9 b hb).2.2.2.2.1, (s9 b hb).2.2.2.2.2.1, (s9 b hb).2.2.2.2.2.2⟩
    by_cases e : b = k
    · subst e
      rw [u1s, u1s]
    · rw [u1n e, u1n (by omega), (s9 b hb).2.2.1]
  · intro c hc
    simp only [u3n (r' := 12) (r := 6) (by decide), u3n (r' := 13) (r := 6) (by decide), u3n (r' := 14) (r := 6) (by decide), u3n (r' := 15) (r := 6) (by decide), u3n (r' := 16) (r := 6) (by decide)]
    rw [u1n (j := 55 + 5 * c + 0) (by omega), u1n (j := 55 + 5 * c + 1) (by omega), u1n (j := 55 + 5 * c + 2) (by omega), u1n (j := 55 + 5 * c + 3) (by omega), u1n (j := 55 + 5 * c + 4) (by omega)]
    exact s10 c hc
theorem CS_given {d : Nat → Nat → Nat → Int32} {i : Nat} {w : Nat → Int32} {C K k : Nat} {v : Int32} (hs : CS d i w C K) (hk : k < 4) : CS (ev_u3 d 7 i k v) i (ev_u1 w (19 + 9 * k + 4) v) C K := by
  have hs0 := hs
  obtain ⟨s1, s2, s3, s4, s5, -, -, s8, s9, s10, -⟩ := hs
  refine CS_lo hs0 (fun r hr => by rw [u3n (by omega)]) (fun j hj => u1n (by omega)) ?_ ?_ ?_ ?_ ?_ ?_ ?_ ?_ (fun q _ => by rw [u3n (by decide)])
  · intro j hj
    rw [u3n (by decide), u1n (by omega), s1 j hj]
  · rw [u3n (by decide), u1n (by omega), s2]
  · rw [u3n (by decide), u1n (by omega), s3]
  · rw [u3n (by decide), u1n (by omega), s4]
  · rw [u3n (by decide), u1n (by omega), s5]
  · intro j hj
    rw [u3n (by decide), u1n (by omega), s8 j hj]
  · intro b hb
    simp only [u3n (r' := 4) (r := 7) (by decide), u3n (r' := 5) (r := 7) (by decide), u3n (r' := 6) (r := 7) (by decide), u3n (r' := 8) (r := 7) (by decide), u3n (r' := 9) (r := 7) (by decide), u3n (r' := 10) (r := 7) (by decide), u3r]
    rw [u1n (j := 19 + 9 * b + 0) (by omega), u1n (j := 19 + 9 * b + 1) (by omega), u1n (j := 19 + 9 * b + 3) (by omega), u1n (j := 19 + 9 * b + 5) (by omega), u1n (j := 19 + 9 * b + 6) (by omega), u1n (j := 19 + 9 * b + 7) (by omega)]
    refine ⟨(s9 b hb).1, (s9 b hb).2.1, (s9 b hb).2.2.1, ?_, (s9 b hb).2.2.2.2.1, (s9 b hb).2.2.2.2.2.1, (s9 b hb).2.2.2.2.2.2⟩
    by_cases e : b = k
    · subst e
      rw [u1s, u1s]
    · rw [u1n e, u1n (by omega), (s9 b hb).2.2.2.1]
  · intro c hc
    simp only [u3n (r' := 12) (r := 7) (by decide), u3n (r' := 13) (r := 7) (by decide), u3n (r' := 14) (r := 7) (by decide), u3n (r' := 15) (r := 7) (by decide), u3n (r' := 16) (r := 7) (by decide)]
    rw [u1n (j := 55 + 5 * c + 0) (by omega), u1n (j := 55 + 5 * c + 1) (by omega), u1n (j := 55 + 5 * c + 2) (by omega), u1n (j := 55 + 5 * c + 3) (by omega), u1n (j := 55 + 5 * c + 4) (by omega)]
    exact s10 c hc
theorem CS_taken {d : Nat → Nat → Nat → Int32} {i : Nat} {w : Nat → Int32} {C K k : Nat} {v : Int32} (hs : CS d i w C K) (hk : k < 4) : CS (ev_u3 d 8 i k v) i (ev_u1 w (19 + 9 * k + 5) v) C K := by
  have hs0 := hs
  obtain ⟨s1, s2, s3, s4, s5, -, -, s8, s9, s10, -⟩ := hs
  refine CS_lo hs0 (fun r hr => by rw [u3n (by omega)]) (fun j hj => u1n (by omega)) ?_ ?_ ?_ ?_ ?_ ?_ ?_ ?_ (fun q _ => by rw [u3n (by decide)])
  · intro j hj
    rw [u3n (by decide), u1n (by omega), s1 j hj]
  · rw [u3n (by decide), u1n (by omega), s2]
  · rw [u3n (by decide), u1n (by omega), s3]
  · rw [u3n (by decide), u1n (by omega), s4]
  · rw [u3n (by decide), u1n (by omega), s5]
  · intro j hj
    rw [u3n (by decide), u1n (by omega), s8 j hj]
  · intro b hb
    simp only [u3n (r' := 4) (r := 8) (by decide), u3n (r' := 5) (r := 8) (by decide), u3n (r' := 6) (r := 8) (by decide), u3n (r' := 7) (r := 8) (by decide), u3n (r' := 9) (r := 8) (by decide), u3n (r' := 10) (r := 8) (by decide), u3r]
    rw [u1n (j := 19 + 9 * b + 0) (by omega), u1n (j := 19 + 9 * b + 1) (by omega), u1n (j := 19 + 9 * b + 3) (by omega), u1n (j := 19 + 9 * b + 4) (by omega), u1n (j := 19 + 9 * b + 6) (by omega), u1n (j := 19 + 9 * b + 7) (by omega)]
    refine ⟨(s9 b hb).1, (s9 b hb).2.1, (s9 b hb).2.2.1, (s9 b hb).2.2.2.1, ?_, (s9 b hb).2.2.2.2.2.1, (s9 b hb).2.2.2.2.2.2⟩
    by_cases e : b = k
    · subst e
      rw [u1s, u1s]
    · rw [u1n e, u1n (by omega), (s9 b hb).2.2.2.2.1]
  · intro c hc
    simp only [u3n (r' := 12) (r := 8) (by decide), u3n (r' := 13) (r := 8) (by decide), u3n (r' := 14) (r := 8) (by decide), u3n (r' := 15) (r := 8) (by decide), u3n (r' := 16) (r := 8) (by decide)]
    rw [u1n (j := 55 + 5 * c + 0) (by omega), u1n (j := 55 + 5 * c + 1) (by omega), u1n (j := 55 + 5 * c + 2) (by omega), u1n (j := 55 + 5 * c + 3) (by omega), u1n (j := 55 + 5 * c + 4) (by omega)]
    exact s10 c hc
theorem CS_wish {d : Nat → Nat → Nat → Int32} {i : Nat} {w : Nat → Int32} {C K k : Nat} {v : Int32} (hs : CS d i w C K) (hk : k < 4) : CS (ev_u3 d 9 i k v) i (ev_u1 w (19 + 9 * k + 6) v) C K := by
  have hs0 := hs
  obtain ⟨s1, s2, s3, s4, s5, -, -, s8, s9, s10, -⟩ := hs
  refine CS_lo hs0 (fun r hr => by rw [u3n (by omega)]) (fun j hj => u1n (by omega)) ?_ ?_ ?_ ?_ ?_ ?_ ?_ ?_ (fun q _ => by rw [u3n (by decide)])
  · intro j hj
    rw [u3n (by decide), u1n (by omega), s1 j hj]
  · rw [u3n (by decide), u1n (by omega), s2]
  · rw [u3n (by decide), u1n (by omega), s3]
  · rw [u3n (by decide), u1n (by omega), s4]
  · rw [u3n (by decide), u1n (by omega), s5]
  · intro j hj
    rw [u3n (by decide), u1n (by omega), s8 j hj]
  · intro b hb
    simp only [u3n (r' := 4) (r := 9) (by decide), u3n (r' := 5) (r := 9) (by decide), u3n (r' := 6) (r := 9) (by decide), u3n (r' := 7) (r := 9) (by decide), u3n (r' := 8) (r := 9) (by decide), u3n (r' := 10) (r := 9) (by decide), u3r]
    rw [u1n (j := 19 + 9 * b + 0) (by omega), u1n (j := 19 + 9 * b + 1) (by omega), u1n (j := 19 + 9 * b + 3) (by omega), u1n (j := 19 + 9 * b + 4) (by omega), u1n (j := 19 + 9 * b + 5) (by omega), u1n (j := 19 + 9 * b + 7) (by omega)]
    refine ⟨(s9 b hb).1, (s9 b hb).2.1, (s9 b hb).2.2.1, (s9 b hb).2.2.2.1, (s9 b hb).2.2.2.2.1, ?_, (s9 b hb).2.2.2.2.2.2⟩
    by_cases e : b = k
    · subst e
      rw [u1s, u1s]
    · rw [u1n e, u1n (by omega), (s9 b hb).2.2.2.2.2.1]
  · intro c hc
    simp only [u3n (r' := 12) (r := 9) (by decide), u3n (r' := 13) (r := 9) (by decide), u3n (r' := 14) (r := 9) (by decide), u3n (r' := 15) (r := 9) (by decide), u3n (r' := 16) (r := 9) (by decide)]
    rw [u1n (j := 55 + 5 * c + 0) (by omega), u1n (j := 55 + 5 * c + 1) (by omega), u1n (j := 55 + 5 * c + 2) (by omega), u1n (j := 55 + 5 * c + 3) (by omega), u1n (j := 55 + 5 * c + 4) (by omega)]
    exact s10 c hc
theorem CS_granted {d : Nat → Nat → Nat → Int32} {i : Nat} {w : Nat → Int32} {C K k : Nat} {v : Int32} (hs : CS d i w C K) (hk : k < 4) : CS (ev_u3 d 10 i k v) i (ev_u1 w (19 + 9 * k + 7) v) C K := by
  have hs0 := hs
  obtain ⟨s1, s2, s3, s4, s5, -, -, s8, s9, s10, -⟩ := hs
  refine CS_lo hs0 (fun r hr => by rw [u3n (by omega)]) (fun j hj => u1n (by omega)) ?_ ?_ ?_ ?_ ?_ ?_ ?_ ?_ (fun q _ => by rw [u3n (by decide)])
  · intro j hj
    rw [u3n (by decide), u1n (by omega), s1 j hj]
  · rw [u3n (by decide), u1n (by omega), s2]
  · rw [u3n (by decide), u1n (by omega), s3]
  · rw [u3n (by decide), u1n (by omega), s4]
  · rw [u3n (by decide), u1n (by omega), s5]
  · intro j hj
    rw [u3n (by decide), u1n (by omega), s8 j hj]
  · intro b hb
    simp only [u3n (r' := 4) (r := 10) (by decide), u3n (r' := 5) (r := 10) (by decide), u3n (r' := 6) (r := 10) (by decide), u3n (r' := 7) (r := 10) (by decide), u3n (r' := 8) (r := 10) (by decide), u3n (r' := 9) (r := 10) (by decide), u3r]
    rw [u1n (j := 19 + 9 * b + 0) (by omega), u1n (j := 19 + 9 * b + 1) (by omega), u1n (j := 19 + 9 * b + 3) (by omega), u1n (j := 19 + 9 * b + 4) (by omega), u1n (j := 19 + 9 * b + 5) (by omega), u1n (j := 19 + 9 * b + 6) (by omega)]
    refine ⟨(s9 b hb).1, (s9 b hb).2.1, (s9 b hb).2.2.1, (s9 b hb).2.2.2.1, (s9 b hb).2.2.2.2.1, (s9 b hb).2.2.2.2.2.1, ?_⟩
    by_cases e : b = k
    · subst e
      rw [u1s, u1s]
    · rw [u1n e, u1n (by omega), (s9 b hb).2.2.2.2.2.2]
  · intro c hc
    simp only [u3n (r' := 12) (r := 10) (by decide), u3n (r' := 13) (r := 10) (by decide), u3n (r' := 14) (r := 10) (by decide), u3n (r' := 15) (r := 10) (by decide), u3n (r' := 16) (r := 10) (by decide)]
    rw [u1n (j := 55 + 5 * c + 0) (by omega), u1n (j := 55 + 5 * c + 1) (by omega), u1n (j := 55 + 5 * c + 2) (by omega), u1n (j := 55 + 5 * c + 3) (by omega), u1n (j := 55 + 5 * c + 4) (by omega)]
    exact s10 c hc
theorem CS_age {d : Nat → Nat → Nat → Int32} {i : Nat} {w : Nat → Int32} {C K k : Nat} {v : Int32} (hs : CS d i w C K) (hk : k < 64) : CS (ev_u3 d 12 i k v) i (ev_u1 w (55 + 5 * k + 0) v) C K := by
  have hs0 := hs
  obtain ⟨s1, s2, s3, s4, s5, -, -, s8, s9, s10, -⟩ := hs
  refine CS_lo hs0 (fun r hr => by rw [u3n (by omega)]) (fun j hj => u1n (by omega)) ?_ ?_ ?_ ?_ ?_ ?_ ?_ ?_ (fun q _ => by rw [u3n (by decide)])
  · intro j hj
    rw [u3n (by decide), u1n (by omega), s1 j hj]
  · rw [u3n (by decide), u1n (by omega), s2]
  · rw [u3n (by decide), u1n (by omega), s3]
  · rw [u3n (by decide), u1n (by omega), s4]
  · rw [u3n (by decide), u1n (by omega), s5]
  · intro j hj
    rw [u3n (by decide), u1n (by omega), s8 j hj]
  · intro b hb
    simp only [u3n (r' := 4) (r := 12) (by decide), u3n (r' := 5) (r := 12) (by decide), u3n (r' := 6) (r := 12) (by decide), u3n (r' := 7) (r := 12) (by decide), u3n (r' := 8) (r := 12) (by decide), u3n (r' := 9) (r := 12) (by decide), u3n (r' := 10) (r := 12) (by decide)]
    rw [u1n (j := 19 + 9 * b + 0) (by omega), u1n (j := 19 + 9 * b + 1) (by omega), u1n (j := 19 + 9 * b + 3) (by omega), u1n (j := 19 + 9 * b + 4) (by omega), u1n (j := 19 + 9 * b + 5) (by omega), u1n (j := 19 + 9 * b + 6) (by omega), u1n (j := 19 + 9 * b + 7) (by omega)]
    exact s9 b hb
  · intro c hc
    simp only [u3n (r' := 13) (r := 12) (by decide), u3n (r' := 14) (r := 12) (by decide), u3n (r' := 15) (r := 12) (by decide), u3n (r' := 16) (r := 12) (by decide), u3r]
    rw [u1n (j := 55 + 5 * c + 1) (by omega), u1n (j := 55 + 5 * c + 2) (by omega), u1n (j := 55 + 5 * c + 3) (by omega), u1n (j := 55 + 5 * c + 4) (by omega)]
    refine ⟨?_, (s10 c hc).2.1, (s10 c hc).2.2.1, (s10 c hc).2.2.2.1, (s10 c hc).2.2.2.2⟩
    by_cases e : c = k
    · subst e
      rw [u1s, u1s]
    · rw [u1n e, u1n (by omega), (s10 c hc).1]
theorem CS_lost {d : Nat → Nat → Nat → Int32} {i : Nat} {w : Nat → Int32} {C K k : Nat} {v : Int32} (hs : CS d i w C K) (hk : k < 64) : CS (ev_u3 d 13 i k v) i (ev_u1 w (55 + 5 * k + 1) v) C K := by
  have hs0 := hs
  obtain ⟨s1, s2, s3, s4, s5, -, -, s8, s9, s10, -⟩ := hs
  refine CS_lo hs0 (fun r hr => by rw [u3n (by omega)]) (fun j hj => u1n (by omega)) ?_ ?_ ?_ ?_ ?_ ?_ ?_ ?_ (fun q _ => by rw [u3n (by decide)])
  · intro j hj
    rw [u3n (by decide), u1n (by omega), s1 j hj]
  · rw [u3n (by decide), u1n (by omega), s2]
  · rw [u3n (by decide), u1n (by omega), s3]
  · rw [u3n (by decide), u1n (by omega), s4]
  · rw [u3n (by decide), u1n (by omega), s5]
  · intro j hj
    rw [u3n (by decide), u1n (by omega), s8 j hj]
  · intro b hb
    simp only [u3n (r' := 4) (r := 13) (by decide), u3n (r' := 5) (r := 13) (by decide), u3n (r' := 6) (r := 13) (by decide), u3n (r' := 7) (r := 13) (by decide), u3n (r' := 8) (r := 13) (by decide), u3n (r' := 9) (r := 13) (by decide), u3n (r' := 10) (r := 13) (by decide)]
    rw [u1n (j := 19 + 9 * b + 0) (by omega), u1n (j := 19 + 9 * b + 1) (by omega), u1n (j := 19 + 9 * b + 3) (by omega), u1n (j := 19 + 9 * b + 4) (by omega), u1n (j := 19 + 9 * b + 5) (by omega), u1n (j := 19 + 9 * b + 6) (by omega), u1n (j := 19 + 9 * b + 7) (by omega)]
    exact s9 b hb
  · intro c hc
    simp only [u3n (r' := 12) (r := 13) (by decide), u3n (r' := 14) (r := 13) (by decide), u3n (r' := 15) (r := 13) (by decide), u3n (r' := 16) (r := 13) (by decide), u3r]
    rw [u1n (j := 55 + 5 * c + 0) (by omega), u1n (j := 55 + 5 * c + 2) (by omega), u1n (j := 55 + 5 * c + 3) (by omega), u1n (j := 55 + 5 * c + 4) (by omega)]
    refine ⟨(s10 c hc).1, ?_, (s10 c hc).2.2.1, (s10 c hc).2.2.2.1, (s10 c hc).2.2.2.2⟩
    by_cases e : c = k
    · subst e
      rw [u1s, u1s]
    · rw [u1n e, u1n (by omega), (s10 c hc).2.1]
theorem CS_rowRefreshes {d : Nat → Nat → Nat → Int32} {i : Nat} {w : Nat → Int32} {C K k : Nat} {v : Int32} (hs : CS d i w C K) (hk : k < 64) : CS (ev_u3 d 14 i k v) i (ev_u1 w (55 + 5 * k + 2) v) C K := by
  have hs0 := hs
  obtain ⟨s1, s2, s3, s4, s5, -, -, s8, s9, s10, -⟩ := hs
  refine CS_lo hs0 (fun r hr => by rw [u3n (by omega)]) (fun j hj => u1n (by omega)) ?_ ?_ ?_ ?_ ?_ ?_ ?_ ?_ (fun q _ => by rw [u3n (by decide)])
  · intro j hj
    rw [u3n (by decide), u1n (by omega), s1 j hj]
  · rw [u3n (by decide), u1n (by omega), s2]
  · rw [u3n (by decide), u1n (by omega), s3]
  · rw [u3n (by decide), u1n (by omega), s4]
  · rw [u3n (by decide), u1n (by omega), s5]
  · intro j hj
    rw [u3n (by decide), u1n (by omega), s8 j hj]
  · intro b hb
    simp only [u3n (r' := 4) (r := 14) (by decide), u3n (r' := 5) (r := 14) (by decide), u3n (r' := 6) (r := 14) (by decide), u3n (r' := 7) (r := 14) (by decide), u3n (r' := 8) (r := 14) (by decide), u3n (r' := 9) (r := 14) (by decide), u3n (r' := 10) (r := 14) (by decide)]
    rw [u1n (j := 19 + 9 * b + 0) (by omega), u1n (j := 19 + 9 * b + 1) (by omega), u1n (j := 19 + 9 * b + 3) (by omega), u1n (j := 19 + 9 * b + 4) (by omega), u1n (j := 19 + 9 * b + 5) (by omega), u1n (j := 19 + 9 * b + 6) (by omega), u1n (j := 19 + 9 * b + 7) (by omega)]
    exact s9 b hb
  · intro c hc
    simp only [u3n (r' := 12) (r := 14) (by decide), u3n (r' := 13) (r := 14) (by decide), u3n (r' := 15) (r := 14) (by decide), u3n (r' := 16) (r := 14) (by decide), u3r]
    rw [u1n (j := 55 + 5 * c + 0) (by omega), u1n (j := 55 + 5 * c + 1) (by omega), u1n (j := 55 + 5 * c + 3) (by omega), u1n (j := 55 + 5 * c + 4) (by omega)]
    refine ⟨(s10 c hc).1, (s10 c hc).2.1, ?_, (s10 c hc).2.2.2.1, (s10 c hc).2.2.2.2⟩
    by_cases e : c = k
    · subst e
      rw [u1s, u1s]
    · rw [u1n e, u1n (by omega), (s10 c hc).2.2.1]
theorem CS_rowAccesses {d : Nat → Nat → Nat → Int32} {i : Nat} {w : Nat → Int32} {C K k : Nat} {v : Int32} (hs : CS d i w C K) (hk : k < 64) : CS (ev_u3 d 15 i k v) i (ev_u1 w (55 + 5 * k + 3) v) C K := by
  have hs0 := hs
  obtain ⟨s1, s2, s3, s4, s5, -, -, s8, s9, s10, -⟩ := hs
  refine CS_lo hs0 (fun r hr => by rw [u3n (by omega)]) (fun j hj => u1n (by omega)) ?_ ?_ ?_ ?_ ?_ ?_ ?_ ?_ (fun q _ => by rw [u3n (by decide)])
  · intro j hj
    rw [u3n (by decide), u1n (by omega), s1 j hj]
  · rw [u3n (by decide), u1n (by omega), s2]
  · rw [u3n (by decide), u1n (by omega), s3]
  · rw [u3n (by decide), u1n (by omega), s4]
  · rw [u3n (by decide), u1n (by omega), s5]
  · intro j hj
    rw [u3n (by decide), u1n (by omega), s8 j hj]
  · intro b hb
    simp only [u3n (r' := 4) (r := 15) (by decide), u3n (r' := 5) (r := 15) (by decide), u3n (r' := 6) (r := 15) (by decide), u3n (r' := 7) (r := 15) (by decide), u3n (r' := 8) (r := 15) (by decide), u3n (r' := 9) (r := 15) (by decide), u3n (r' := 10) (r := 15) (by decide)]
    rw [u1n (j := 19 + 9 * b + 0) (by omega), u1n (j := 19 + 9 * b + 1) (by omega), u1n (j := 19 + 9 * b + 3) (by omega), u1n (j := 19 + 9 * b + 4) (by omega), u1n (j := 19 + 9 * b + 5) (by omega), u1n (j := 19 + 9 * b + 6) (by omega), u1n (j := 19 + 9 * b + 7) (by omega)]
    exact s9 b hb
  · intro c hc
    simp only [u3n (r' := 12) (r := 15) (by decide), u3n (r' := 13) (r := 15) (by decide), u3n (r' := 14) (r := 15) (by decide), u3n (r' := 16) (r := 15) (by decide), u3r]
    rw [u1n (j := 55 + 5 * c + 0) (by omega), u1n (j := 55 + 5 * c + 1) (by omega), u1n (j := 55 + 5 * c + 2) (by omega), u1n (j := 55 + 5 * c + 4) (by omega)]
    refine ⟨(s10 c hc).1, (s10 c hc).2.1, (s10 c hc).2.2.1, ?_, (s10 c hc).2.2.2.2⟩
    by_cases e : c = k
    · subst e
      rw [u1s, u1s]
    · rw [u1n e, u1n (by omega), (s10 c hc).2.2.2.1]
theorem CS_rowLosses {d : Nat → Nat → Nat → Int32} {i : Nat} {w : Nat → Int32} {C K k : Nat} {v : Int32} (hs : CS d i w C K) (hk : k < 64) : CS (ev_u3 d 16 i k v) i (ev_u1 w (55 + 5 * k + 4) v) C K := by
  have hs0 := hs
  obtain ⟨s1, s2, s3, s4, s5, -, -, s8, s9, s10, -⟩ := hs
  refine CS_lo hs0 (fun r hr => by rw [u3n (by omega)]) (fun j hj => u1n (by omega)) ?_ ?_ ?_ ?_ ?_ ?_ ?_ ?_ (fun q _ => by rw [u3n (by decide)])
  · intro j hj
    rw [u3n (by decide), u1n (by omega), s1 j hj]
  · rw [u3n (by decide), u1n (by omega), s2]
  · rw [u3n (by decide), u1n (by omega), s3]
  · rw [u3n (by decide), u1n (by omega), s4]
  · rw [u3n (by decide), u1n (by omega), s5]
  · intro j hj
    rw [u3n (by decide), u1n (by omega), s8 j hj]
  · intro b hb
    simp only [u3n (r' := 4) (r := 16) (by decide), u3n (r' := 5) (r := 16) (by decide), u3n (r' := 6) (r := 16) (by decide), u3n (r' := 7) (r := 16) (by decide), u3n (r' := 8) (r := 16) (by decide), u3n (r' := 9) (r := 16) (by decide), u3n (r' := 10) (r := 16) (by decide)]
    rw [u1n (j := 19 + 9 * b + 0) (by omega), u1n (j := 19 + 9 * b + 1) (by omega), u1n (j := 19 + 9 * b + 3) (by omega), u1n (j := 19 + 9 * b + 4) (by omega), u1n (j := 19 + 9 * b + 5) (by omega), u1n (j := 19 + 9 * b + 6) (by omega), u1n (j := 19 + 9 * b + 7) (by omega)]
    exact s9 b hb
  · intro c hc
    simp only [u3n (r' := 12) (r := 16) (by decide), u3n (r' := 13) (r := 16) (by decide), u3n (r' := 14) (r := 16) (by decide), u3n (r' := 15) (r := 16) (by decide), u3r]
    rw [u1n (j := 55 + 5 * c + 0) (by omega), u1n (j := 55 + 5 * c + 1) (by omega), u1n (j := 55 + 5 * c + 2) (by omega), u1n (j := 55 + 5 * c + 3) (by omega)]
    refine ⟨(s10 c hc).1, (s10 c hc).2.1, (s10 c hc).2.2.1, (s10 c hc).2.2.2.1, ?_⟩
    by_cases e : c = k
    · subst e
      rw [u1s, u1s]
    · rw [u1n e, u1n (by omega), (s10 c hc).2.2.2.2]
/-! THE PROGRAM AGAINST THE REFERENCE, 9: a debt moves -/
section EC6
variable {n : Nat} {lk : Nat → Nat → Nat → Bool} {d : Nat → Nat → Nat → Int32} {o : ev_W}
theorem ec_move (hl : LK lk) {i : Nat} (hi : i < 15) {w : Nat → Int32} {C K b k : Nat} (hs : CS d i w C K) (hb : b < 4) (hk : k < 4) :
    ∃ d', EV (66, 0, [ev_R 0 i, ev_I (Int32.ofNat b), ev_I (Int32.ofNat k)], [], 0, 0) (n, lk, d, o) = some (.inl none, (n, lk, d', o)) ∧ FR d d' i ∧ CS d' i (ms_moves w b k) C K := by
  have a6 : lk 0 i 6 = true := hl 0 i 6 rfl hi (by decide)
  have a5 : lk 0 i 5 = true := hl 0 i 5 rfl hi (by decide)
  have b0 : lk 3 i 0 = true := hl 3 i 0 rfl hi (by decide)
  have b3 : lk 3 i 3 = true := hl 3 i 3 rfl hi (by decide)
  have b4 : lk 3 i 4 = true := hl 3 i 4 rfl hi (by decide)
  have f1 : d 4 i b = w (19 + 9 * b + 0) := (hs.2.2.2.2.2.2.2.2.1 b hb).1
  have f2 : d 7 i b = w (19 + 9 * b + 4) := (hs.2.2.2.2.2.2.2.2.1 b hb).2.2.2.1
  have f3 : d 8 i k = w (19 + 9 * k + 5) := (hs.2.2.2.2.2.2.2.2.1 k hk).2.2.2.2.1
  have f4 : d 2 i 4 = w 15 := hs.2.2.2.2.2.2.2.1 4 (by decide)
  have c1 := CS_debt (k := b) (v := w (19 + 9 * b + 0) + -1) hs hb
  have g := (c1.2.2.2.2.2.2.2.2.1 k hk).1
  have c2 := CS_given (k := b) (v := w (19 + 9 * b + 4) + 1) c1 hb
  have c3 := CS_debt (k := k) (v := ev_u1 w (19 + 9 * b + 0) (w (19 + 9 * b + 0) + -1) (19 + 9 * k + 0) + 1) c2 hk
  have c4 := CS_taken (k := k) (v := w (19 + 9 * k + 5) + 1) c3 hk
  have c5 := CS_sum (k := 4) (v := w 15 + 1) c4 (by decide)
  refine ⟨ev_u3 (ev_u3 (ev_u3 (ev_u3 (ev_u3 d 4 i b (w (19 + 9 * b + 0) + -1)) 7 i b (w (19 + 9 * b + 4) + 1)) 4 i k (ev_u1 w (19 + 9 * b + 0) (w (19 + 9 * b + 0) + -1) (19 + 9 * k + 0) + 1)) 8 i k (w (19 + 9 * k + 5) + 1)) 2 i 4 (w 15 + 1), ?_, FR_t (FR_t (FR_t (FR_t (FR_u3 (by decide)) (FR_u3 (by decide))) (FR_u3 (by decide))) (FR_u3 (by decide))) (FR_u3 (by decide)), ?_⟩
  rotate_left
  · have hw : ms_moves w b k = ev_u1 (ev_u1 (ev_u1 (ev_u1 (ev_u1 w (19 + 9 * b + 0) (w (19 + 9 * b + 0) + -1)) (19 + 9 * b + 4) (w (19 + 9 * b + 4) + 1)) (19 + 9 * k + 0) (ev_u1 w (19 + 9 * b + 0) (w (19 + 9 * b + 0) + -1) (19 + 9 * k + 0) + 1)) (19 + 9 * k + 5) (w (19 + 9 * k + 5) + 1)) 15 (w 15 + 1) := by
      unfold ms_moves
      simp only []
      rw [u1n (w := w) (j := 19 + 9 * b + 4) (by omega)]
      rw [u1n (k := 19 + 9 * b + 4) (j := 19 + 9 * k + 0) (by omega)]
      rw [u1n (k := 19 + 9 * k + 0) (j := 19 + 9 * k + 5) (by omega), u1n (k := 19 + 9 * b + 4) (j := 19 + 9 * k + 5) (by omega), u1n (k := 19 + 9 * b + 0) (j := 19 + 9 * k + 5) (by omega)]
      rw [u1n (k := 19 + 9 * k + 5) (j := 15) (by omega), u1n (k := 19 + 9 * k + 0) (j := 15) (by omega), u1n (k := 19 + 9 * b + 4) (j := 15) (by omega), u1n (k := 19 + 9 * b + 0) (j := 15) (by omega)]
    rw [hw]
    exact c5
  · refine EV_bk (k := 400) ?_
    rw [bk_66_0]
    simp only [a6, a5, b0, b3, b4, cond_true, ni_in (n := b) (N := 4) (by omega) (by omega), ni_c (n := b) (by omega), ni_in (n := k) (N := 4) (by omega) (by omega), ni_c (n := k) (by omega), f1, f2, f3, f4, Int32.sub_eq_add_neg, g]
end EC6
/-! THE PROGRAM AGAINST THE REFERENCE, 10: who takes a debt -/
def mc_tb (w : Nat → Int32) (k : Nat) : Int32 := match ms_tk w k with
  | none => -1
  | some f => Int32.ofNat f
def mc_tl (w : Nat → Int32) (k : Nat) : Int32 := match ms_tk w k with
  | none => 1000000000
  | some f => w (19 + 9 * f + 1)
section EC7
variable {n : Nat} {lk : Nat → Nat → Nat → Bool} {d : Nat → Nat → Nat → Int32} {o : ev_W}
theorem ec_coolest (hl : LK lk) {i : Nat} (hi : i < 15) {w : Nat → Int32} {C K B : Nat} (hs : CS d i w C K) (hB : d 24 1 0 = Int32.ofNat B) (h4 : B ≤ 4) (h3 : w 3 ≤ 1000000000) :
    EV (75, 0, [ev_R 32 0, ev_R 0 i], [], 0, 0) (n, lk, d, o) = some (.inl (some (ev_I (mc_tb w B))), (n, lk, d, o)) := by
  have a0 : lk 32 0 0 = true := hl 32 0 0 rfl (by decide) (by decide)
  have a6 : lk 0 i 6 = true := hl 0 i 6 rfl hi (by decide)
  have b1 : lk 3 i 1 = true := hl 3 i 1 rfl hi (by decide)
  have loop : ∀ j b, b + j = B → EV (75, 8, [ev_R 32 0, ev_R 0 i, ev_I (mc_tb w b), ev_I (mc_tl w b), ev_I (Int32.ofNat b)], [], 0, 0) (n, lk, d, o) = some (.inl (some (ev_I (mc_tb w B))), (n, lk, d, o)) := by
    intro j
    induction j with
    | zero =>
      intro b hb
      refine EV_bk (k := 400) ?_
      rw [bk_75_8, a0, cond_true, hB, if_neg (fun z => by have := (ni_lt (by omega) (by omega)).mp z; omega), show b = B by omega]
    | succ j ih =>
      intro b hb
      have hlt : Int32.ofNat b < Int32.ofNat B := (ni_lt (by omega) (by omega)).mpr (by omega)
      have hb4 : b < 4 := by omega
      have e := ih (b + 1) (by omega)
      have f0 : d 4 i b = w (19 + 9 * b + 0) := (hs.2.2.2.2.2.2.2.2.1 b hb4).1
      have f1 : d 5 i b = w (19 + 9 * b + 1) := (hs.2.2.2.2.2.2.2.2.1 b hb4).2.1
      have f2 : d 1 i 1 = w 1 := hs.1 1 (by decide)
      have hh := ec_hot_ms hs hb4
      have hcan : (¬ d 1 i 3 ≤ d 5 i b ∧ d 4 i b < d 1 i 1) ↔ ms_can w b := by rw [hh, f0, f2]
      have hst : ms_tk w (b + 1) = if ms_can w b then (match ms_tk w b with
        | none => some b
        | some f => if w (19 + 9 * b + 1) < w (19 + 9 * f + 1) then some b else some f) else ms_tk w b := rfl
      refine EV_bk (k := 400) ?_
      rw [bk_75_8, a0, cond_true, hB, if_pos hlt, ec_canTake hl hi hb4]
      simp only [ev_bi]
      by_cases hc : ms_can w b
      · rw [if_pos (hcan.mpr hc), if_neg (by decide)]
        rw [if_pos hc] at hst
        simp only [a6, b1, cond_true, ni_in (n := b) (N := 4) (by omega) (by omega), ni_c (n := b) (by omega), f1, ni_1]
        unfold mc_tb mc_tl at e ⊢
        cases hk : ms_tk w b with
        | none =>
          rw [hk] at hst
          simp only [hst] at e
          have hlt2 : w (19 + 9 * b + 1) < 1000000000 := by
            have h1 : ¬ d 1 i 3 ≤ d 5 i b := (hcan.mpr hc).1
            rw [f1] at h1
            have h2 : w (19 + 9 * b + 1) < d 1 i 3 := Int32.not_le.mp h1
            exact Int32.lt_of_lt_of_le h2 (by rw [hs.1 3 (by decide)]; exact h3)
          simp only []
          rw [if_pos hlt2]
          exact e
        | some f =>
          rw [hk] at hst
          simp only [] at hst ⊢
          by_cases h : w (19 + 9 * b + 1) < w (19 + 9 * f + 1)
          · rw [if_pos h] at hst
            rw [hst] at e
            rw [if_pos h]
            exact e
          · rw [if_neg h] at hst
            rw [hst] at e
            rw [if_neg h]
            exact e
      · rw [if_neg (fun z => hc (hcan.mp z)), if_pos rfl]
        rw [if_neg hc] at hst
        unfold mc_tb mc_tl at e ⊢
        rw [hst] at e
        simp only [ni_1]
        exact e
  refine EV_bk (k := 400) ?_
  rw [bk_75_0]
  exact loop B 0 (by omega)
end EC7
/-! THE PROGRAM AGAINST THE REFERENCE, 11: debts are traded -/
section EC8
variable {n : Nat} {lk : Nat → Nat → Nat → Bool} {d : Nat → Nat → Nat → Int32} {o : ev_W}
theorem ec_trade (hl : LK lk) {i : Nat} (hi : i < 15) {w : Nat → Int32} {C K B : Nat} (hs : CS d i w C K) (hB : d 24 1 0 = Int32.ofNat B) (h4 : B ≤ 4) (h3 : w 3 ≤ 1000000000) :
    ∃ d', EV (74, 0, [ev_R 32 0, ev_R 0 i], [], 0, 0) (n, lk, d, o) = some (.inl none, (n, lk, d', o)) ∧ FR d d' i ∧ CS d' i (ms_trades w B B) C K := by
  have a0 : lk 32 0 0 = true := hl 32 0 0 rfl (by decide) (by decide)
  have a6 : lk 0 i 6 = true := hl 0 i 6 rfl hi (by decide)
  have b0 : lk 3 i 0 = true := hl 3 i 0 rfl hi (by decide)
  have loop : ∀ j b (d : Nat → Nat → Nat → Int32), b + j = B → d 24 1 0 = Int32.ofNat B → CS d i (ms_trades w B b) C K → ∃ d', EV (74, 2, [ev_R 32 0, ev_R 0 i, ev_I (Int32.ofNat b)], [], 0, 0) (n, lk, d, o) = some (.inl none, (n, lk, d', o)) ∧ FR d d' i ∧ CS d' i (ms_trades w B B) C K := by
    intro j
    induction j with
    | zero =>
      intro b d hb hT hs
      refine ⟨d, ?_, FR_r d i, ?_⟩
      · refine EV_bk (k := 400) ?_
        rw [bk_74_2, a0, cond_true, hT, if_neg (fun z => by have := (ni_lt (by omega) (by omega)).mp z; omega)]
      · have : b = B := by omega
        rw [this] at hs
        exact hs
    | succ j ih =>
      intro b d hb hT hs
      have hlt : Int32.ofNat b < Int32.ofNat B := (ni_lt (by omega) (by omega)).mpr (by omega)
      have hb4 : b < 4 := by omega
      have hst : ms_trades w B (b + 1) = if ms_hot (ms_trades w B b) b ∧ 0 < ms_trades w B b (19 + 9 * b + 0) then (match ms_tk (ms_trades w B b) B with
        | none => ms_trades w B b
        | some k => ms_moves (ms_trades w B b) b k) else ms_trades w B b := rfl
      have f0 : d 4 i b = ms_trades w B b (19 + 9 * b + 0) := (hs.2.2.2.2.2.2.2.2.1 b hb4).1
      have hh := ec_hot_ms hs hb4
      by_cases h1 : ms_hot (ms_trades w B b) b
      · by_cases h2 : 0 < ms_trades w B b (19 + 9 * b + 0)
        · rw [if_pos ⟨h1, h2⟩] at hst
          have hco := ec_coolest (n := n) (o := o) hl hi hs hT h4 (by rw [ms_trades_lo w B (by decide) b]; exact h3)
          unfold mc_tb at hco
          cases hk : ms_tk (ms_trades w B b) B with
          | none =>
            rw [hk] at hst hco
            obtain ⟨d', e1, e2, e3⟩ := ih (b + 1) d (by omega) hT (by rw [hst]; exact hs)
            refine ⟨d', ?_, e2, e3⟩
            refine EV_bk (k := 400) ?_
            rw [bk_74_2, a0, cond_true, hT, if_pos hlt, ec_isHot hl hi hb4]
            simp only [ev_bi]
            rw [if_pos (hh.mpr h1), if_neg (by decide)]
            simp only [a6, b0, cond_true, ni_in (n := b) (N := 4) (by omega) (by omega), ni_c (n := b) (by omega), f0, ni_1]
            rw [if_neg (Int32.not_le.mpr h2), hco]
            simp only [if_true]
            exact e1
          | some k =>
            rw [hk] at hst hco
            have hkB := ms_tk_lt hk
            obtain ⟨dm, m1, m2, m3⟩ := ec_move (n := n) (o := o) (lk := lk) hl hi (b := b) (k := k) hs hb4 (by omega)
            obtain ⟨d', e1, e2, e3⟩ := ih (b + 1) dm (by omega) ((congrFun (m2 24 1 (.inl (by decide))) 0).trans hT) (by rw [hst]; exact m3)
            refine ⟨d', ?_, FR_t m2 e2, e3⟩
            refine EV_bk (k := 400) ?_
            rw [bk_74_2, a0, cond_true, hT, if_pos hlt, ec_isHot hl hi hb4]
            simp only [ev_bi]
            rw [if_pos (hh.mpr h1), if_neg (by decide)]
            simp only [a6, b0, cond_true, ni_in (n := b) (N := 4) (by omega) (by omega), ni_c (n := b) (by omega), f0, ni_1]
            rw [if_neg (Int32.not_le.mpr h2), hco]
            simp only []
            rw [if_neg (fun z => by
              have h0 : (0 : Int32) ≤ Int32.ofNat k := (ni_le (a := 0) (by omega) (by omega)).mpr (Nat.zero_le _)
              rw [z] at h0
              exact absurd h0 (by decide)), m1]
            simp only [ev_bv]
            exact e1
        · rw [if_neg (fun z => h2 z.2)] at hst
          obtain ⟨d', e1, e2, e3⟩ := ih (b + 1) d (by omega) hT (by rw [hst]; exact hs)
          refine ⟨d', ?_, e2, e3⟩
          refine EV_bk (k := 400) ?_
          rw [bk_74_2, a0, cond_true, hT, if_pos hlt, ec_isHot hl hi hb4]
          simp only [ev_bi]
          rw [if_pos (hh.mpr h1), if_neg (by decide)]
          simp only [a6, b0, cond_true, ni_in (n := b) (N := 4) (by omega) (by omega), ni_c (n := b) (by omega), f0, ni_1]
          rw [if_pos (Int32.not_lt.mp h2)]
          exact e1
      · rw [if_neg (fun z => h1 z.1)] at hst
        obtain ⟨d', e1, e2, e3⟩ := ih (b + 1) d (by omega) hT (by rw [hst]; exact hs)
        refine ⟨d', ?_, e2, e3⟩
        refine EV_bk (k := 400) ?_
        rw [bk_74_2, a0, cond_true, hT, if_pos hlt, ec_isHot hl hi hb4]
        simp only [ev_bi]
        rw [if_neg (fun z => h1 (hh.mp z)), if_pos rfl]
        simp only [ni_1]
        exact e1
  obtain ⟨d', e1, e2, e3⟩ := loop B 0 d (by omega) hB hs
  refine ⟨d', ?_, e2, e3⟩
  refine EV_bk (k := 400) ?_
  rw [bk_74_0]
  exact e1
end EC8
/-! THE PROGRAM AGAINST THE REFERENCE, 12: banks cool -/
def ms_cools (w : Nat → Int32) (sv : Nat → Option Nat) : Nat → Nat → Int32
  | 0 => w
  | b + 1 => ms_cool1 (ms_cools w sv b) b (sv b)
section EC9
variable {n : Nat} {lk : Nat → Nat → Nat → Bool} {d : Nat → Nat → Nat → Int32} {o : ev_W}
theorem ec_cools (hl : LK lk) {i : Nat} (hi : i < 15) {w : Nat → Int32} {sv : Nat → Option Nat} {C K B : Nat} (hs : CS d i w C K) (hB : d 24 1 0 = Int32.ofNat B) (h4 : B ≤ 4) (hv : ∀ b, b < B → (d 38 0 b = -1 ↔ sv b = none)) :
    ∃ d', EV (85, 0, [ev_R 32 0, ev_R 0 i], [], 0, 0) (n, lk, d, o) = some (.inl none, (n, lk, d', o)) ∧ FR d d' i ∧ CS d' i (ms_cools w sv B) C K := by
  have a0 : lk 32 0 0 = true := hl 32 0 0 rfl (by decide) (by decide)
  have a6 : lk 0 i 6 = true := hl 0 i 6 rfl hi (by decide)
  have t6 : lk 32 0 6 = true := hl 32 0 6 rfl (by decide) (by decide)
  have b1 : lk 3 i 1 = true := hl 3 i 1 rfl hi (by decide)
  have loop : ∀ j b (d : Nat → Nat → Nat → Int32), b + j = B → d 24 1 0 = Int32.ofNat B → (∀ b, b < B → (d 38 0 b = -1 ↔ sv b = none)) → CS d i (ms_cools w sv b) C K → ∃ d', EV (85, 2, [ev_R 32 0, ev_R 0 i, ev_I (Int32.ofNat b)], [], 0, 0) (n, lk, d, o) = some (.inl none, (n, lk, d', o)) ∧ FR d d' i ∧ CS d' i (ms_cools w sv B) C K := by
    intro j
    induction j with
    | zero =>
      intro b d hb hT hv hs
      refine ⟨d, ?_, FR_r d i, ?_⟩
      · refine EV_bk (k := 400) ?_
        rw [bk_85_2, a0, cond_true, hT, if_neg (fun z => by have := (ni_lt (by omega) (by omega)).mp z; omega)]
      · have : b = B := by omega
        rw [this] at hs
        exact hs
    | succ j ih =>
      intro b d hb hT hv hs
      have hlt : Int32.ofNat b < Int32.ofNat B := (ni_lt (by omega) (by omega)).mpr (by omega)
      have hb4 : b < 4 := by omega
      have hst : ms_cools w sv (b + 1) = if sv b = none ∧ 0 < ms_cools w sv b (19 + 9 * b + 1) then ev_u1 (ms_cools w sv b) (19 + 9 * b + 1) (ms_cools w sv b (19 + 9 * b + 1) + -1) else ms_cools w sv b := rfl
      have f1 : d 5 i b = ms_cools w sv b (19 + 9 * b + 1) := (hs.2.2.2.2.2.2.2.2.1 b hb4).2.1
      by_cases h1 : sv b = none
      · by_cases h2 : 0 < ms_cools w sv b (19 + 9 * b + 1)
        · rw [if_pos ⟨h1, h2⟩] at hst
          have c1 := CS_heat (k := b) (v := ms_cools w sv b (19 + 9 * b + 1) + -1) hs hb4
          have fr : FR d (ev_u3 d 5 i b (ms_cools w sv b (19 + 9 * b + 1) + -1)) i := FR_u3 (by decide)
          obtain ⟨d', e1, e2, e3⟩ := ih (b + 1) _ (by omega) ((congrFun (fr 24 1 (.inl (by decide))) 0).trans hT) (fun x hx => by rw [congrFun (fr 38 0 (.inl (by decide))) x]; exact hv x hx) (by rw [hst]; exact c1)
          refine ⟨d', ?_, FR_t fr e2, e3⟩
          refine EV_bk (k := 400) ?_
          rw [bk_85_2, a0, cond_true, hT, if_pos hlt]
          simp only [t6, a6, b1, cond_true, ni_in (n := b) (N := 4) (by omega) (by omega), ni_c (n := b) (by omega), f1, ni_1]
          rw [if_pos ((hv b (by omega)).mpr h1), if_neg (Int32.not_le.mpr h2), Int32.sub_eq_add_neg]
          exact e1
        · rw [if_neg (fun z => h2 z.2)] at hst
          obtain ⟨d', e1, e2, e3⟩ := ih (b + 1) d (by omega) hT hv (by rw [hst]; exact hs)
          refine ⟨d', ?_, e2, e3⟩
          refine EV_bk (k := 400) ?_
          rw [bk_85_2, a0, cond_true, hT, if_pos hlt]
          simp only [t6, a6, b1, cond_true, ni_in (n := b) (N := 4) (by omega) (by omega), ni_c (n := b) (by omega), f1, ni_1]
          rw [if_pos ((hv b (by omega)).mpr h1), if_pos (Int32.not_lt.mp h2)]
          exact e1
      · rw [if_neg (fun z => h1 z.1)] at hst
        obtain ⟨d', e1, e2, e3⟩ := ih (b + 1) d (by omega) hT hv (by rw [hst]; exact hs)
        refine ⟨d', ?_, e2, e3⟩
        refine EV_bk (k := 400) ?_
        rw [bk_85_2, a0, cond_true, hT, if_pos hlt]
        simp only [t6, a6, b1, cond_true, ni_in (n := b) (N := 4) (by omega) (by omega), ni_c (n := b) (by omega), f1, ni_1]
        rw [if_neg (fun z => h1 ((hv b (by omega)).mp z))]
        exact e1
  obtain ⟨d', e1, e2, e3⟩ := loop B 0 d (by omega) hB hv hs
  refine ⟨d', ?_, e2, e3⟩
  refine EV_bk (k := 400) ?_
  rw [bk_85_0]
  exact e1
end EC9
