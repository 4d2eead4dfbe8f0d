/-! THE LAW'S OWN MEMORY, 17: a bank acts, and its rows grow -/
theorem cool_n {w : Nat → Int32} {b k : Nat} {sv : Option Nat} (h : ¬ AH b k) : ms_cool1 w b sv k = w k := (LC_cool1 (b := b) (sv := sv)).1 w k h
theorem rows_n {t w : Nat → Int32} {b R k : Nat} {to hot : Int32} (hR : R ≤ 16) (h : ¬ AR b k) : ms_rows t w b to hot R k = w k := (LC_rows (t := t) (b := b) (to := to) (hot := hot) hR).1 w k h
theorem ac_n {w : Nat → Int32} {b wi k : Nat} {sv : Option Nat} {to : Int32} (h1 : to = -1 ∨ ∃ r, r < 16 ∧ to = Int32.ofNat r) (h2 : ∀ q, sv = some q → ∃ r, r < 16 ∧ to = Int32.ofNat r) (h : ¬ AA b sv k) : ac_one w b wi sv to k = w k := (LC_ac (b := b) (wi := wi) h1 h2).1 w k h
theorem st_n {w : Nat → Int32} {b k : Nat} {x y : Int32} (h : ¬ A6 b k) : st_one w b x y k = w k := (LC_st (b := b) (x := x) (y := y)).1 w k h
/-- where a refresh of bank b acts -/
def AF (b k : Nat) : Prop := k = 19 + 9 * b + 0 ∨ k = 19 + 9 * b + 3 ∨ (∃ r, r < 16 ∧ k = 55 + 5 * (16 * b + r) + 2) ∨ k = 12 ∨ k = 13
theorem LC_rf {b r : Nat} {u : Prop} (du : Decidable u) (hr : r < 16) : LC (AF b) AN (fun w => ms_refresh w b r u) := by
  have a1 : AF b (19 + 9 * b + 0) := .inl rfl
  have a2 : AF b (19 + 9 * b + 3) := .inr (.inl rfl)
  have a3 : AF b (55 + 5 * (16 * b + r) + 2) := .inr (.inr (.inl ⟨r, hr, rfl⟩))
  have a4 : AF b 12 := .inr (.inr (.inr (.inl rfl)))
  have a5 : AF b 13 := .inr (.inr (.inr (.inr rfl)))
  refine ⟨fun w k hk => ?_, fun w w' h => ?_⟩
  · have n : ∀ {K : Nat}, AF b K → k ≠ K := fun h e => hk (e ▸ h)
    show ms_refresh w b r u k = w k
    unfold ms_refresh
    rw [u1n (n a5), u1n (n a4), u1n (n a3), u1n (n a2), u1n (n a1)]
  · have g1 := h.u1 (K := 19 + 9 * b + 0) (congrArg (· + -1) (h _ (.inl a1)))
    have g2 := g1.u1 (K := 19 + 9 * b + 3) (congrArg (· + 1) (g1 _ (.inl a2)))
    have g3 := g2.u1 (K := 55 + 5 * (16 * b + r) + 2) (congrArg (· + 1) (g2 _ (.inl a3)))
    have g4 := g3.u1 (K := 12) (congrArg (· + 1) (g3 _ (.inl a4)))
    exact g4.u1 (K := 13) (congrArg (· + (if u then 1 else 0)) (g4 _ (.inl a5)))
theorem rf_n {w : Nat → Int32} {b r k : Nat} {u : Prop} [du : Decidable u] (hr : r < 16) (h : ¬ AF b k) : ms_refresh w b r u k = w k := (LC_rf (b := b) (r := r) du hr).1 w k h
/-- a bank as the law does it: it cools first -/
def lb_one (t V : Nat → Int32) (R b wi : Nat) (sv : Option Nat) (to hot : Int32) : Nat → Int32 := ms_rows t (ac_one (ms_cool1 V b sv) b wi sv to) b to hot R
theorem lb_eq {t V : Nat → Int32} {R b wi : Nat} {sv : Option Nat} {to hot : Int32} (hb : b < 4) (hR : R ≤ 16) (h1 : to = -1 ∨ ∃ r, r < 16 ∧ to = Int32.ofNat r) : ms_cool1 (ms_rows t (ac_one V b wi sv to) b to hot R) b sv = lb_one t V R b wi sv to hot := by
  unfold lb_one
  cases sv with
  | some q =>
    have e : ∀ X : Nat → Int32, ms_cool1 X b (some q) = X := fun X => if_neg (fun z => absurd z.1 (by simp))
    rw [e, e]
  | none =>
    rw [LC.comm (LC_cool1 (b := b) (sv := none)) (LC_rows (t := t) (b := b) (to := to) (hot := hot) hR) (fun k a c => ?_) (fun k a => nomatch a) (fun k a c => ?_) (ac_one V b wi none to)]
    · congr 1
      show ms_cool1 (if to = -1 then V else ms_refresh V b to.toNatClampNeg (wi = 1)) b none = (if to = -1 then ms_cool1 V b none else ms_refresh (ms_cool1 V b none) b to.toNatClampNeg (wi = 1))
      by_cases c : to = -1
      · rw [if_pos c, if_pos c]
      · rw [if_neg c, if_neg c]
        obtain ⟨r, hr, e⟩ := h1.resolve_left c
        rw [e, ni_c (by omega)]
        refine LC.comm (LC_cool1 (b := b) (sv := none)) (LC_rf (b := b) (r := r) _ hr) (fun k a c => ?_) (fun k a => nomatch a) (fun k a => nomatch a) V
        unfold AH at a
        unfold AF at c
        rcases c with c | c | ⟨x, hx, c⟩ | c | c <;> omega
    · unfold AH at a
      unfold AR at c
      rcases c with c | ⟨x, hx, c⟩ <;> omega
    · unfold AY at a
      unfold AH at c
      omega
section HB
variable {t w : Nat → Int32} {R B : Nat} {to hot : Nat → Int32} {sv : Nat → Option Nat} {wi : Nat → Nat} {g : Nat → Bool}
theorem mb_lo (hTS : ms_TS B sv to) (h4 : B ≤ 4) (hR : R ≤ 16) {b k : Nat} (hb : b ≤ B) (hb4 : b < 4) (hk : k < 10 ∨ k = 19 + 9 * b + 1 ∨ (∃ x, x < 4 ∧ (k = 19 + 9 * x + 6 ∨ k = 19 + 9 * x + 7))) : ∀ j, j ≤ b → mb t w R to hot sv wi j k = w k
  | 0, _ => rfl
  | j + 1, hj => by
    obtain ⟨h1, h2⟩ := hTS j (by omega)
    have ih := mb_lo hTS h4 hR hb hb4 hk j (by omega)
    show ms_cool1 (ms_rows t (ac_one (mb t w R to hot sv wi j) j (wi j) (sv j) (to j)) j (to j) (hot j) R) j (sv j) k = _
    rw [cool_n (b := j) (sv := sv j) (fun z => by unfold AH at z; rcases hk with hk | hk | ⟨x, hx, hk⟩ <;> omega), rows_n hR (fun z => by unfold AR at z; rcases z with z | ⟨x, hx, z⟩ <;> rcases hk with hk | hk | ⟨y, hy, hk⟩ <;> omega), ac_n h1 h2 (fun z => ?_), ih]
    unfold AA at z
    rcases z with z | z | ⟨x, hx, z⟩ | ⟨x, hx, z⟩ <;> rcases hk with hk | hk | ⟨y, hy, hk⟩ <;> omega
theorem acts_lo (hTS : ms_TS B sv to) (h4 : B ≤ 4) {b k : Nat} (hb : b ≤ B) (hb4 : b < 4) (hk : k < 10 ∨ k = 19 + 9 * b + 1) : ∀ j, j ≤ b → ms_acts w wi g sv to j k = w k
  | 0, _ => rfl
  | j + 1, hj => by
    obtain ⟨h1, h2⟩ := hTS j (by omega)
    have ih := acts_lo hTS h4 hb hb4 hk j (by omega)
    show ms_one (ms_acts w wi g sv to j) j (wi j) (g j) (sv j) (to j) k = _
    rw [one_ac, ac_n h1 h2 (fun z => ?_), st_n (fun z => ?_), ih]
    · unfold A6 at z
      omega
    · unfold AA at z
      rcases z with z | z | ⟨x, hx, z⟩ | ⟨x, hx, z⟩ <;> omega
theorem hot_AG {V V' : Nat → Int32} {b : Nat} (h3 : V 3 = V' 3) (hh : V (19 + 9 * b + 1) = V' (19 + 9 * b + 1)) : ms_hot V b ↔ ms_hot V' b := by
  unfold ms_hot
  rw [show 20 + 9 * b = 19 + 9 * b + 1 by omega, h3, hh]
theorem was_w (hTS : ms_TS B sv to) (h4 : B ≤ 4) {b : Nat} (hb : b < B) : ms_was w wi g sv to b = if ms_hot w b then 1 else 0 := by
  unfold ms_was
  have e := hot_AG (acts_lo (w := w) (wi := wi) (g := g) hTS h4 (b := b) (k := 3) (by omega) (by omega) (.inl (by omega)) b (Nat.le_refl b)) (acts_lo (w := w) (wi := wi) (g := g) hTS h4 (b := b) (k := 19 + 9 * b + 1) (by omega) (by omega) (.inr rfl) b (Nat.le_refl b))
  by_cases c : ms_hot w b
  · rw [if_pos c, if_pos (e.mpr c)]
  · rw [if_neg c, if_neg (fun z => c (e.mp z))]
end HB
theorem serve_eq {w : Nat → Int32} {b q r : Nat} (hb : b < 4) (hr : r < 16) : ms_serve w b q r = ev_u1 (ev_u1 (ev_u1 (ev_u1 (ev_u1 (ev_u1 (ev_u1 (ev_u1 w (375 + 6 * q + 3) 2) (375 + 6 * q + 4) (w 8)) (19 + 9 * b + 2) (w (19 + 9 * b + 2) + 1)) (19 + 9 * b + 1) (w (19 + 9 * b + 1) + w 4)) (55 + 5 * (16 * b + r) + 3) (w (55 + 5 * (16 * b + r) + 3) + 1)) (11 + 5) (w 16 + 1)) 17 (w 17 + (w 8 - w (375 + 6 * q + 2)))) 18 (if w 18 < w 8 - w (375 + 6 * q + 2) then w 8 - w (375 + 6 * q + 2) else w 18) := by
  have hl : ∀ a c : Int32, (if a ≤ c then c else a) = (if c < a then a else c) := fun a c => by
    by_cases z : a ≤ c
    · rw [if_pos z, if_neg (Int32.not_lt.mpr z)]
    · rw [if_neg z, if_pos (Int32.not_le.mp z)]
  unfold ms_serve
  simp (disch := omega) only [u1n, hl]
theorem refresh_eq {w : Nat → Int32} {b r : Nat} {u : Prop} [Decidable u] (hb : b < 4) : ms_refresh w b r u = ev_u1 (ev_u1 (ev_u1 (ev_u1 (ev_u1 w (19 + 9 * b + 0) (w (19 + 9 * b + 0) - 1)) (19 + 9 * b + 3) (w (19 + 9 * b + 3) + 1)) (55 + 5 * (16 * b + r) + 2) (w (55 + 5 * (16 * b + r) + 2) + 1)) (11 + 1) (w (11 + 1) + 1)) (11 + 2) (w (11 + 2) + (if u then 1 else 0)) := by
  unfold ms_refresh
  simp (disch := omega) only [u1n, Int32.sub_eq_add_neg]
section LM17
variable {n : Nat} {lk : Nat → Nat → Nat → Bool} {d : Nat → Nat → Nat → Int32} {wn : Nat} {tt : Nat → Nat} {e : Nat → Nat → Nat → Int32} {q : Nat → Nat → Nat → Nat} {i : Nat} {t u : Nat → Int32} {P : ev_O × ev_M → Prop}
theorem wat_AG {V V' : Nat → Int32} {C b : Nat} {l : List Nat} (hs : SF V b C (-1) l) (hs' : SF V' b C (-1) l) : ms_wat V' b C 0 (-1) = ms_wat V b C 0 (-1) := by rw [SF.wat 0 hs, SF.wat 0 hs']
theorem lb_hi {V : Nat → Int32} {R b wi k : Nat} {to hot : Int32} (hb : b < 4) (hR : R ≤ 16) (h1 : to = -1 ∨ ∃ r, r < 16 ∧ to = Int32.ofNat r) (hk : 375 ≤ k ∨ k = 10) : lb_one t V R b wi none to hot k = V k := by
  unfold lb_one
  rw [rows_n hR (fun z => by unfold AR at z; rcases z with z | ⟨x, hx, z⟩ <;> omega), ac_n (sv := none) h1 (fun _ z => nomatch z) (fun z => ?_), cool_n (b := b) (sv := none) (fun z => by unfold AH at z; omega)]
  unfold AA at z
  rcases z with z | z | ⟨x, hx, z⟩ | ⟨x, hx, z⟩
  · omega
  · omega
  · omega
  · cases hx
theorem lb_hi2 {V : Nat → Int32} {R b wi k p : Nat} {to hot : Int32} (hb : b < 4) (hR : R ≤ 16) (h2 : ∃ r, r < 16 ∧ to = Int32.ofNat r) (hk : (375 ≤ k ∧ k ≠ 375 + 6 * p + 3 ∧ k ≠ 375 + 6 * p + 4) ∨ k = 10) : lb_one t V R b wi (some p) to hot k = V k := by
  unfold lb_one
  rw [rows_n hR (fun z => by unfold AR at z; rcases z with z | ⟨x, hx, z⟩ <;> omega), ac_n (.inr h2) (fun _ _ => h2) (fun z => ?_), cool_n (b := b) (sv := some p) (fun z => by unfold AH at z; omega)]
  unfold AA at z
  rcases z with z | z | ⟨x, hx, z⟩ | ⟨x, hx, z⟩
  · omega
  · omega
  · omega
  · cases hx
    omega
end LM17
