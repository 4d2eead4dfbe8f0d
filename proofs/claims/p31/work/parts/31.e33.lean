/-! THE PROGRAM AGAINST THE REFERENCE, 19: all banks act -/
theorem ms_fnd_wt {w : Nat → Int32} {b : Nat} {last : Int32} : ∀ {n f : Nat}, ms_fnd w b last n = some f → ms_wt w b last f
  | 0, _, h => by cases h
  | n + 1, f, h => by
    unfold ms_fnd at h
    by_cases c : ms_wt w b last n
    · rw [if_pos c] at h
      cases hg : ms_fnd w b last n with
      | none =>
        rw [hg] at h
        cases h
        exact c
      | some g =>
        rw [hg] at h
        simp only [] at h
        split at h
        · cases h; exact c
        · cases h; exact ms_fnd_wt hg
    · rw [if_neg c] at h
      exact ms_fnd_wt h
theorem mc_serve_n {w : Nat → Int32} {b q r k : Nat} (h : k ≠ 55 + 5 * (16 * b + r) + 0 ∧ k ≠ 55 + 5 * (16 * b + r) + 1 ∧ k ≠ 55 + 5 * (16 * b + r) + 3) (h2 : k ≠ 375 + 6 * q + 3 ∧ k ≠ 375 + 6 * q + 4) (h3 : k ≠ 19 + 9 * b + 1 ∧ k ≠ 19 + 9 * b + 2) (h4 : k ≠ 16 ∧ k ≠ 17 ∧ k ≠ 18) : mc_serve w b q r k = w k := by
  unfold mc_serve
  simp (disch := omega) only [u1n]
theorem mc_refresh_n {w : Nat → Int32} {b r k : Nat} {u : Prop} [Decidable u] (h : k ≠ 55 + 5 * (16 * b + r) + 0 ∧ k ≠ 55 + 5 * (16 * b + r) + 1 ∧ k ≠ 55 + 5 * (16 * b + r) + 2) (h3 : k ≠ 19 + 9 * b + 0 ∧ k ≠ 19 + 9 * b + 3) (h4 : k ≠ 12 ∧ k ≠ 13) : mc_refresh w b r u k = w k := by
  unfold mc_refresh
  split <;> simp (disch := omega) only [u1n]
theorem mc_one_n {w : Nat → Int32} {b wi k : Nat} {sv : Option Nat} {to : Int32} (hto : to = -1 ∨ ∃ r, r < 16 ∧ to = Int32.ofNat r) (hsv : ∀ q, sv = some q → ∃ r, r < 16 ∧ to = Int32.ofNat r)
    (h : ∀ r, r < 16 → k ≠ 55 + 5 * (16 * b + r) + 0 ∧ k ≠ 55 + 5 * (16 * b + r) + 1 ∧ k ≠ 55 + 5 * (16 * b + r) + 2 ∧ k ≠ 55 + 5 * (16 * b + r) + 3) (h2 : ∀ q, sv = some q → k ≠ 375 + 6 * q + 3 ∧ k ≠ 375 + 6 * q + 4)
    (h3 : k ≠ 19 + 9 * b + 0 ∧ k ≠ 19 + 9 * b + 1 ∧ k ≠ 19 + 9 * b + 2 ∧ k ≠ 19 + 9 * b + 3) (h4 : k ≠ 12 ∧ k ≠ 13 ∧ k ≠ 16 ∧ k ≠ 17 ∧ k ≠ 18) : mc_one w b wi sv to k = w k := by
  cases sv with
  | some q =>
    obtain ⟨r, hr, e⟩ := hsv q rfl
    subst e
    show mc_serve w b q (Int32.ofNat r).toNatClampNeg k = w k
    rw [ni_c (by omega)]
    have := h r hr
    have := h2 q rfl
    exact mc_serve_n (by omega) (by omega) (by omega) (by omega)
  | none =>
    show (if to = -1 then w else mc_refresh w b to.toNatClampNeg (wi = 1)) k = w k
    by_cases z : to = -1
    · rw [if_pos z]
    · rw [if_neg z]
      obtain ⟨r, hr, e⟩ := hto.resolve_left z
      subst e
      rw [ni_c (by omega)]
      have := h r hr
      exact mc_refresh_n (by omega) (by omega) (by omega)
theorem mc_one_ph {w : Nat → Int32} {b wi p : Nat} {sv : Option Nat} {to : Int32} (hto : to = -1 ∨ ∃ r, r < 16 ∧ to = Int32.ofNat r) (hsv : ∀ q, sv = some q → ∃ r, r < 16 ∧ to = Int32.ofNat r) (hb : b < 4) (h : w (375 + 6 * p + 3) ≠ 0) : mc_one w b wi sv to (375 + 6 * p + 3) ≠ 0 := by
  by_cases z : sv = some p
  · subst z
    show mc_serve w b p to.toNatClampNeg (375 + 6 * p + 3) ≠ 0
    obtain ⟨r, hr, e⟩ := hsv p rfl
    subst e
    rw [ni_c (by omega)]
    unfold mc_serve
    simp (disch := omega) only [u1n, u1s]
    decide
  · rw [mc_one_n hto hsv (fun r hr => by omega) (fun q hq => by
      have : p ≠ q := fun x => z (x ▸ hq)
      omega) (by omega) (by omega)]
    exact h
def mc_acts (w : Nat → Int32) (wi : Nat → Nat) (sv : Nat → Option Nat) (to : Nat → Int32) : Nat → Nat → Int32
  | 0 => w
  | b + 1 => mc_one (mc_acts w wi sv to b) b (wi b) (sv b) (to b)
/-- what no act changes -/
def ms_KA (k : Nat) : Prop := k < 12 ∨ k = 14 ∨ k = 15 ∨ (∃ b, b < 4 ∧ (k = 19 + 9 * b + 4 ∨ k = 19 + 9 * b + 5 ∨ k = 19 + 9 * b + 6 ∨ k = 19 + 9 * b + 7)) ∨ ∃ q x, (x < 3 ∨ x = 5) ∧ k = 375 + 6 * q + x
/-- where and whom the banks touch and serve -/
def ms_TS (B : Nat) (sv : Nat → Option Nat) (to : Nat → Int32) : Prop := ∀ b, b < B → (to b = -1 ∨ ∃ r, r < 16 ∧ to b = Int32.ofNat r) ∧ ∀ q, sv b = some q → ∃ r, r < 16 ∧ to b = Int32.ofNat r
theorem mc_acts_k {w : Nat → Int32} {wi : Nat → Nat} {sv : Nat → Option Nat} {to : Nat → Int32} {B k : Nat} (h : ms_TS B sv to) (h4 : B ≤ 4) (hk : ms_KA k) : ∀ b, b ≤ B → mc_acts w wi sv to b k = w k
  | 0, _ => rfl
  | b + 1, hb => by
    have ih := mc_acts_k (w := w) (wi := wi) h h4 hk b (by omega)
    obtain ⟨t1, t2⟩ := h b (by omega)
    show mc_one (mc_acts w wi sv to b) b (wi b) (sv b) (to b) k = w k
    rw [mc_one_n t1 t2 ?_ ?_ ?_ ?_, ih]
    all_goals rcases hk with z | z | z | ⟨b', hb', z⟩ | ⟨q', x, hx, z⟩
    all_goals first | omega | (intro r hr; omega)
theorem mc_acts_ph {w : Nat → Int32} {wi : Nat → Nat} {sv : Nat → Option Nat} {to : Nat → Int32} {B p : Nat} (h : ms_TS B sv to) (h4 : B ≤ 4) (hp : w (375 + 6 * p + 3) ≠ 0) : ∀ b, b ≤ B → mc_acts w wi sv to b (375 + 6 * p + 3) ≠ 0
  | 0, _ => hp
  | b + 1, hb => by
    have ih := mc_acts_ph (w := w) (wi := wi) h h4 hp b (by omega)
    obtain ⟨t1, t2⟩ := h b (by omega)
    exact mc_one_ph t1 t2 (by omega) ih
section EC14
variable {n : Nat} {lk : Nat → Nat → Nat → Bool} {d : Nat → Nat → Nat → Int32} {o : ev_W}
theorem ec_acts (hl : LK lk) {i : Nat} (hi : i < 15) {t w : Nat → Int32} {C K B R S : Nat} (hs : CS d i (ms_wg t w (ms_wk t w R) (ms_wi t w C R) B S) C K) (hL : CL d 1 t) (hB : t 0 = Int32.ofNat B) (h4 : B ≤ 4) (h16 : R ≤ 16)
    (hk : ∀ b, b < B → TKR d t w C R b) (hrow : ∀ q, q < C → ∃ r, r < 16 ∧ w (375 + 6 * q + 1) = Int32.ofNat r) :
    ∃ d', (∀ r, EV (71, 69, [ev_R 32 0, ev_R 0 i, ev_I (Int32.ofNat B)], [], 0, 0) (n, lk, d', o) = some r → EV (71, 69, [ev_R 32 0, ev_R 0 i, ev_I 0], [], 0, 0) (n, lk, d, o) = some r) ∧ FT d d' i ∧ (∀ c, d' 33 0 c = d 33 0 c) ∧
      (∀ b, b < B → d' 37 0 b = ms_to t w C R B S b ∧ d' 38 0 b = ms_en (ms_sv t w C R B S b)) ∧
      CS d' i (mc_acts (ms_wg t w (ms_wk t w R) (ms_wi t w C R) B S) (ms_wi t w C R) (ms_sv t w C R B S) (ms_to t w C R B S) B) C K := by
  have hTS : ms_TS B (ms_sv t w C R B S) (ms_to t w C R B S) := fun b hb => by
    obtain ⟨y1, y2⟩ := ms_sv_to (t := t) (S := S) (B := B) (b := b) h16 hrow
    exact ⟨y2, fun q hq => (y1 q hq).2⟩
  have hg := WG_wg (t := t) (w := w) (wk := ms_wk t w R) (wi := ms_wi t w C R) (B := B) (s := S) h4
  have loop : ∀ j b (d : Nat → Nat → Nat → Int32), b + j = B → CL d 1 t → CS d i (mc_acts (ms_wg t w (ms_wk t w R) (ms_wi t w C R) B S) (ms_wi t w C R) (ms_sv t w C R B S) (ms_to t w C R B S) b) C K → (∀ b, b < B → TKR d t w C R b) →
      (∀ b', b' < b → d 37 0 b' = ms_to t w C R B S b' ∧ d 38 0 b' = ms_en (ms_sv t w C R B S b')) →
      ∃ d', (∀ r, EV (71, 69, [ev_R 32 0, ev_R 0 i, ev_I (Int32.ofNat B)], [], 0, 0) (n, lk, d', o) = some r → EV (71, 69, [ev_R 32 0, ev_R 0 i, ev_I (Int32.ofNat b)], [], 0, 0) (n, lk, d, o) = some r) ∧ FT d d' i ∧ (∀ c, d' 33 0 c = d 33 0 c) ∧
      (∀ b, b < B → d' 37 0 b = ms_to t w C R B S b ∧ d' 38 0 b = ms_en (ms_sv t w C R B S b)) ∧
      CS d' i (mc_acts (ms_wg t w (ms_wk t w R) (ms_wi t w C R) B S) (ms_wi t w C R) (ms_sv t w C R B S) (ms_to t w C R B S) B) C K := by
    intro j
    induction j with
    | zero =>
      intro b d hb hL hs hk hd
      have e : b = B := by omega
      subst e
      exact ⟨d, fun r h => h, FT_r d i, fun c => rfl, hd, hs⟩
    | succ j ih =>
      intro b d hb hL hs hk hd
      have hlt : Int32.ofNat b < Int32.ofNat B := (ni_lt (by omega) (by omega)).mpr (by omega)
      have hb4 : b < 4 := by omega
      obtain ⟨k34, k35, k36, k33⟩ := hk b (by omega)
      have hrw : ∀ q, mc_acts (ms_wg t w (ms_wk t w R) (ms_wi t w C R) B S) (ms_wi t w C R) (ms_sv t w C R B S) (ms_to t w C R B S) b (375 + 6 * q + 1) = w (375 + 6 * q + 1) := fun q => by
        rw [mc_acts_k hTS h4 (.inr (.inr (.inr (.inr ⟨q, 1, by omega, rfl⟩)))) b (by omega), hg.hi (by omega)]
      obtain ⟨d1, e1, f1, k37, k38, c1⟩ := ec_act (n := n) (o := o) (g := ms_gg t w C R B S b) (k := ms_wi t w C R b) (r := ms_wk t w R b) (f := ms_wat w b C 0 (-1)) hl hi hs hb4 (ms_wish_lt t w C b _)
        (by rw [mc_acts_k hTS h4 (.inr (.inr (.inr (.inl ⟨b, hb4, by omega⟩)))) b (by omega), ms_wg6 (by omega)])
        (by rw [mc_acts_k hTS h4 (.inr (.inr (.inr (.inl ⟨b, hb4, by omega⟩)))) b (by omega), ms_wg7 (by omega)]; rfl)
        k34 (ms_wk_lt h16) k36 (fun q hq => by
          have hwt := ms_fnd_wt hq
          refine ⟨ms_wat_lt hq, mc_acts_ph hTS h4 (by rw [hg.hi (by omega), hwt.1]; decide) b (by omega), ?_⟩
          rw [hrw]
          exact hrow q (ms_wat_lt hq))
      have eto : mc_to (mc_acts (ms_wg t w (ms_wk t w R) (ms_wi t w C R) B S) (ms_wi t w C R) (ms_sv t w C R B S) (ms_to t w C R B S) b) (ms_wi t w C R b) (ms_gg t w C R B S b) (ms_wk t w R b) (ms_wat w b C 0 (-1)) = ms_to t w C R B S b := by
        rw [show ms_to t w C R B S b = (if ms_rf (ms_wi t w C R b) ∧ ms_gg t w C R B S b = true then Int32.ofNat (ms_wk t w R b) else (match ms_wat w b C 0 (-1) with
          | none => -1
          | some q => w (375 + 6 * q + 1))) from rfl]
        unfold mc_to
        cases ms_wat w b C 0 (-1) with
        | none => rfl
        | some q =>
          simp only []
          rw [hrw]
      have esv : mc_sv (ms_wi t w C R b) (ms_gg t w C R B S b) (ms_wat w b C 0 (-1)) = ms_sv t w C R B S b := rfl
      rw [eto, esv] at c1
      rw [eto] at k37
      rw [esv] at k38
      obtain ⟨d', g1, g2, g3, g4⟩ := ih (b + 1) d1 (by omega) (FT_CL (FA_FT f1) hL) c1 (fun b' hb' => by
        unfold TKR
        rw [f1.1 34 0 (.inl (by decide)), f1.1 35 0 (.inl (by decide)), f1.1 36 0 (.inl (by decide)), f1.1 33 0 (.inl (by decide))]
        exact hk b' hb') (fun b' hb' => by
        by_cases z : b' = b
        · subst z
          exact ⟨k37, k38⟩
        · obtain ⟨x1, x2⟩ := f1.2 b' z
          obtain ⟨y1, y2⟩ := hd b' (by omega)
          exact ⟨x1.trans y1, x2.trans y2⟩)
      refine ⟨d', fun r h => ?_, FT_t (FA_FT f1) g2, fun c => (g3 c).trans (by rw [f1.1 33 0 (.inl (by decide))]), g4⟩
      have h := g1 r h
      refine EV_bk (k := 400) ?_
      rw [bk_71_69, hl 32 0 0 rfl (by decide) (by decide), cond_true, hL.1, hB, if_pos hlt, e1]
      simp only [ev_bv, ni_1]
      exact h
  exact loop B 0 d (by omega) hL hs hk (fun b hb => absurd hb (Nat.not_lt_zero _))
end EC14
