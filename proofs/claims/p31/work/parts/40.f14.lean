/-! THE LAW'S OWN MEMORY, 14: a tick, bank by bank -/
/-- wishes and grants of the first banks -/
def SE (w : Nat → Int32) (f g : Nat → Int32) : Nat → Nat → Int32
  | 0 => w
  | b + 1 => st_one (SE w f g b) b (f b) (g b)
/-- the first banks, one by one -/
def mb (t w : Nat → Int32) (R : Nat) (to hot : Nat → Int32) (sv : Nat → Option Nat) (wi : Nat → Nat) : Nat → Nat → Int32
  | 0 => w
  | b + 1 => ms_cool1 (ms_rows t (ac_one (mb t w R to hot sv wi b) b (wi b) (sv b) (to b)) b (to b) (hot b) R) b (sv b)
section BB
variable {t w : Nat → Int32} {R B : Nat} {to hot : Nat → Int32} {sv : Nat → Option Nat} {wi : Nat → Nat} {g : Nat → Bool}
theorem gr_comm (hTS : ms_TS B sv to) (h4 : B ≤ 4) (hR : R ≤ 16) {b : Nat} (hb : b < B) {x y : Int32} : ∀ j, j ≤ b → ∀ X : Nat → Int32, ms_grow t (ac_one (st_one X b x y) b (wi b) (sv b) (to b)) R to hot sv j = ac_one (st_one (ms_grow t X R to hot sv j) b x y) b (wi b) (sv b) (to b)
  | 0, _, _ => rfl
  | j + 1, hj, X => by
    obtain ⟨h1, h2⟩ := hTS b hb
    have ih := gr_comm hTS h4 hR hb (x := x) (y := y) j (by omega) X
    show ms_cool1 (ms_rows t (ms_grow t (ac_one (st_one X b x y) b (wi b) (sv b) (to b)) R to hot sv j) j (to j) (hot j) R) j (sv j) = _
    rw [ih, x_ac_rows h1 h2 hR (by omega) (by omega), x_ac_cool h1 h2 (by omega) (by omega) (by omega), x_st_rows hR (by omega), x_st_cool]
    rfl
theorem SE_ac {f g' : Nat → Int32} {b wi : Nat} {sv : Option Nat} {to : Int32} (h1 : to = -1 ∨ ∃ r, r < 16 ∧ to = Int32.ofNat r) (h2 : ∀ q, sv = some q → ∃ r, r < 16 ∧ to = Int32.ofNat r) (hb : b < 4) : ∀ j, j ≤ 4 → ac_one (SE w f g' j) b wi sv to = SE (ac_one w b wi sv to) f g' j
  | 0, _ => rfl
  | j + 1, hj => by
    show ac_one (st_one (SE w f g' j) j (f j) (g' j)) b wi sv to = st_one (SE (ac_one w b wi sv to) f g' j) j (f j) (g' j)
    rw [x_st_ac h1 h2 hb (by omega), SE_ac h1 h2 hb j (by omega)]
theorem SE_rows {f g' : Nat → Int32} {b : Nat} {x y : Int32} (hR : R ≤ 16) : ∀ j, j ≤ 4 → ms_rows t (SE w f g' j) b x y R = SE (ms_rows t w b x y R) f g' j
  | 0, _ => rfl
  | j + 1, hj => by
    show ms_rows t (st_one (SE w f g' j) j (f j) (g' j)) b x y R = st_one (SE (ms_rows t w b x y R) f g' j) j (f j) (g' j)
    rw [x_st_rows hR (by omega), SE_rows hR j (by omega)]
theorem SE_cool {f g' : Nat → Int32} {b : Nat} {s : Option Nat} : ∀ j, ms_cool1 (SE w f g' j) b s = SE (ms_cool1 w b s) f g' j
  | 0 => rfl
  | j + 1 => by
    show ms_cool1 (st_one (SE w f g' j) j (f j) (g' j)) b s = st_one (SE (ms_cool1 w b s) f g' j) j (f j) (g' j)
    rw [x_st_cool, SE_cool j]
/-- all acts and then all growth: bank by bank -/
theorem grow_mb (hTS : ms_TS B sv to) (h4 : B ≤ 4) (hR : R ≤ 16) : ∀ b, b ≤ B → ms_grow t (ms_acts w wi g sv to b) R to hot sv b = SE (mb t w R to hot sv wi b) (fun b => Int32.ofNat (wi b)) (fun b => ms_b01 (g b)) b
  | 0, _ => rfl
  | b + 1, hb => by
    have ih := grow_mb hTS h4 hR b (by omega)
    obtain ⟨h1, h2⟩ := hTS b (by omega)
    show ms_cool1 (ms_rows t (ms_grow t (ms_one (ms_acts w wi g sv to b) b (wi b) (g b) (sv b) (to b)) R to hot sv b) b (to b) (hot b) R) b (sv b) = _
    rw [one_ac, gr_comm hTS h4 hR (by omega) b (Nat.le_refl b), ih]
    show ms_cool1 (ms_rows t (ac_one (SE (mb t w R to hot sv wi b) (fun b => Int32.ofNat (wi b)) (fun b => ms_b01 (g b)) (b + 1)) b (wi b) (sv b) (to b)) b (to b) (hot b) R) b (sv b) = _
    rw [SE_ac h1 h2 (by omega) (b + 1) (by omega), SE_rows hR (b + 1) (by omega), SE_cool]
    rfl
/-- the law begins with all wishes and grants -/
theorem mb_SE (hTS : ms_TS B sv to) (h4 : B ≤ 4) (hR : R ≤ 16) {f g' : Nat → Int32} {j : Nat} (hj : j ≤ 4) : ∀ b, b ≤ B → mb t (SE w f g' j) R to hot sv wi b = SE (mb t w R to hot sv wi b) f g' j
  | 0, _ => rfl
  | b + 1, hb => by
    have ih := mb_SE hTS h4 hR (f := f) (g' := g') hj b (by omega)
    obtain ⟨h1, h2⟩ := hTS b (by omega)
    show ms_cool1 (ms_rows t (ac_one (mb t (SE w f g' j) R to hot sv wi b) b (wi b) (sv b) (to b)) b (to b) (hot b) R) b (sv b) = _
    rw [ih, SE_ac h1 h2 (by omega) j hj, SE_rows hR j hj, SE_cool]
    rfl
end BB
theorem SE_fs {w f g' : Nat → Int32} : ∀ B, SE w f g' B = ms_fs 7 (ms_fs 6 w f B) g' B
  | 0 => by rw [ms_fs0, ms_fs0]; rfl
  | B + 1 => by
    have ih := SE_fs (w := w) (f := f) (g' := g') B
    show ev_u1 (ev_u1 (SE w f g' B) (19 + 9 * B + 6) (f B)) (19 + 9 * B + 7) (g' B) = _
    rw [ih, ← ms_fsS (x := 7) (w := ms_fs 6 w f (B + 1)) (by omega), ← ms_fsS (x := 6) (w := w) (by omega)]
    congr 1
    funext k
    by_cases e : k = 19 + 9 * B + 6
    · subst e
      rw [u1s, ms_fs_n (fun b hb => by omega), u1s]
    · rw [u1n e]
      by_cases c : ∃ b, b < B ∧ k = 19 + 9 * b + 7
      · obtain ⟨b, hb, rfl⟩ := c
        rw [ms_fs_at (by omega) hb, ms_fs_at (by omega) hb]
      · rw [ms_fs_n (fun b hb z => c ⟨b, hb, z⟩), ms_fs_n (fun b hb z => c ⟨b, hb, z⟩), u1n e]
