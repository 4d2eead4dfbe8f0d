/-! THE PROGRAM AGAINST THE REFERENCE, 13: what CS says, place by place -/
section CSA
variable {d : Nat → Nat → Nat → Int32} {i : Nat} {w : Nat → Int32} {C K : Nat}
theorem cs_1 (h : CS d i w C K) {k : Nat} (hk : k < 7) : d 1 i k = w k := h.1 k hk
theorem cs_tr (h : CS d i w C K) : d 0 i 1 = w 7 := h.2.1
theorem cs_tm (h : CS d i w C K) : d 0 i 0 = w 8 := h.2.2.1
theorem cs_wt (h : CS d i w C K) : d 0 i 2 = w 17 := h.2.2.2.1
theorem cs_gr (h : CS d i w C K) : d 0 i 3 = w 18 := h.2.2.2.2.1
theorem cs_ct (h : CS d i w C K) : d 17 i 0 = w 9 := h.2.2.2.2.2.1
theorem cs_cm (h : CS d i w C K) : d 17 i 1 = w 10 := h.2.2.2.2.2.2.1
theorem cs_2 (h : CS d i w C K) {k : Nat} (hk : k < 6) : d 2 i k = w (11 + k) := h.2.2.2.2.2.2.2.1 k hk
theorem cs_4 (h : CS d i w C K) {b : Nat} (hb : b < 4) : d 4 i b = w (19 + 9 * b + 0) := (h.2.2.2.2.2.2.2.2.1 b hb).1
theorem cs_5 (h : CS d i w C K) {b : Nat} (hb : b < 4) : d 5 i b = w (19 + 9 * b + 1) := (h.2.2.2.2.2.2.2.2.1 b hb).2.1
theorem cs_6 (h : CS d i w C K) {b : Nat} (hb : b < 4) : d 6 i b = w (19 + 9 * b + 3) := (h.2.2.2.2.2.2.2.2.1 b hb).2.2.1
theorem cs_7 (h : CS d i w C K) {b : Nat} (hb : b < 4) : d 7 i b = w (19 + 9 * b + 4) := (h.2.2.2.2.2.2.2.2.1 b hb).2.2.2.1
theorem cs_8 (h : CS d i w C K) {b : Nat} (hb : b < 4) : d 8 i b = w (19 + 9 * b + 5) := (h.2.2.2.2.2.2.2.2.1 b hb).2.2.2.2.1
theorem cs_9 (h : CS d i w C K) {b : Nat} (hb : b < 4) : d 9 i b = w (19 + 9 * b + 6) := (h.2.2.2.2.2.2.2.2.1 b hb).2.2.2.2.2.1
theorem cs_10 (h : CS d i w C K) {b : Nat} (hb : b < 4) : d 10 i b = w (19 + 9 * b + 7) := (h.2.2.2.2.2.2.2.2.1 b hb).2.2.2.2.2.2
theorem cs_12 (h : CS d i w C K) {c : Nat} (hc : c < 64) : d 12 i c = w (55 + 5 * c + 0) := (h.2.2.2.2.2.2.2.2.2.1 c hc).1
theorem cs_13 (h : CS d i w C K) {c : Nat} (hc : c < 64) : d 13 i c = w (55 + 5 * c + 1) := (h.2.2.2.2.2.2.2.2.2.1 c hc).2.1
theorem cs_14 (h : CS d i w C K) {c : Nat} (hc : c < 64) : d 14 i c = w (55 + 5 * c + 2) := (h.2.2.2.2.2.2.2.2.2.1 c hc).2.2.1
theorem cs_15 (h : CS d i w C K) {c : Nat} (hc : c < 64) : d 15 i c = w (55 + 5 * c + 3) := (h.2.2.2.2.2.2.2.2.2.1 c hc).2.2.2.1
theorem cs_16 (h : CS d i w C K) {c : Nat} (hc : c < 64) : d 16 i c = w (55 + 5 * c + 4) := (h.2.2.2.2.2.2.2.2.2.1 c hc).2.2.2.2
theorem cs_18 (h : CS d i w C K) {q : Nat} (hq : q < C) : d 18 i q = w (375 + 6 * q + 0) := (h.2.2.2.2.2.2.2.2.2.2.1 q hq).1
theorem cs_19 (h : CS d i w C K) {q : Nat} (hq : q < C) : d 19 i q = w (375 + 6 * q + 1) := (h.2.2.2.2.2.2.2.2.2.2.1 q hq).2.1
theorem cs_20 (h : CS d i w C K) {q : Nat} (hq : q < C) : d 20 i q = w (375 + 6 * q + 2) := (h.2.2.2.2.2.2.2.2.2.2.1 q hq).2.2.1
theorem cs_21 (h : CS d i w C K) {q : Nat} (hq : q < C) : d 21 i q = w (375 + 6 * q + 3) := (h.2.2.2.2.2.2.2.2.2.2.1 q hq).2.2.2.1
theorem cs_22 (h : CS d i w C K) {q : Nat} (hq : q < C) : d 22 i q = w (375 + 6 * q + 4) := (h.2.2.2.2.2.2.2.2.2.2.1 q hq).2.2.2.2
theorem cs_w9 (h : CS d i w C K) : w 9 = Int32.ofNat C := h.2.2.2.2.2.2.2.2.2.2.2.1.1
theorem cs_w10 (h : CS d i w C K) : w 10 = Int32.ofNat K := h.2.2.2.2.2.2.2.2.2.2.2.1.2.1
theorem cs_K (h : CS d i w C K) : K = ms_cm w C := h.2.2.2.2.2.2.2.2.2.2.2.1.2.2.1
theorem cs_C (h : CS d i w C K) : C ≤ 40 := h.2.2.2.2.2.2.2.2.2.2.2.1.2.2.2
/-- CS reads its state alone -/
theorem CS_d {d' : Nat → Nat → Nat → Int32} (h : CS d i w C K) (hd : ∀ r, r < 24 → d' r i = d r i) : CS d' i w C K := by
  unfold CS
  rw [hd 0 (by decide), hd 1 (by decide), hd 2 (by decide), hd 4 (by decide), hd 5 (by decide), hd 6 (by decide), hd 7 (by decide), hd 8 (by decide), hd 9 (by decide), hd 10 (by decide), hd 12 (by decide), hd 13 (by decide), hd 14 (by decide), hd 15 (by decide), hd 16 (by decide), hd 17 (by decide), hd 18 (by decide), hd 19 (by decide), hd 20 (by decide), hd 21 (by decide), hd 22 (by decide), hd 23 (by decide)]
  exact h
theorem CL_d {d' : Nat → Nat → Nat → Int32} {l : Nat} {t : Nat → Int32} (h : CL d l t) (h1 : d' 24 l = d 24 l) (h2 : d' 25 l = d 25 l) (h3 : d' 26 l = d 26 l) : CL d' l t := by
  unfold CL
  rw [h1, h2, h3]
  exact h
end CSA
/-! wishes and grants are read by nothing that looks ahead -/
def WG (w w' : Nat → Int32) : Prop := ∀ k, (∀ b, b < 4 → k ≠ 19 + 9 * b + 6 ∧ k ≠ 19 + 9 * b + 7) → w' k = w k
section WGS
variable {t w w' : Nat → Int32}
theorem WG_r (w : Nat → Int32) : WG w w := fun _ _ => rfl
theorem WG.u6 (h : WG w w') {b : Nat} {v : Int32} (hb : b < 4) : WG w (ev_u1 w' (19 + 9 * b + 6) v) := fun k hk => by rw [u1n (hk b hb).1]; exact h k hk
theorem WG.u7 (h : WG w w') {b : Nat} {v : Int32} (hb : b < 4) : WG w (ev_u1 w' (19 + 9 * b + 7) v) := fun k hk => by rw [u1n (hk b hb).2]; exact h k hk
theorem WG.lo (h : WG w w') {k : Nat} (hk : k < 19) : w' k = w k := h k (fun b hb => by omega)
theorem WG.hi (h : WG w w') {k : Nat} (hk : 55 ≤ k) : w' k = w k := h k (fun b hb => by omega)
theorem WG.b (h : WG w w') {b x : Nat} (hx : x < 6) : w' (19 + 9 * b + x) = w (19 + 9 * b + x) := h _ (fun b hb => by omega)
theorem WG.b8 (h : WG w w') {b : Nat} : w' (19 + 9 * b + 8) = w (19 + 9 * b + 8) := h _ (fun b hb => by omega)
theorem WG.hot (h : WG w w') {b : Nat} : ms_hot w' b ↔ ms_hot w b := by
  unfold ms_hot
  rw [h.lo (k := 3) (by omega), show 20 + 9 * b = 19 + 9 * b + 1 by omega, h.b (x := 1) (by omega)]
theorem WG.cool (h : WG w w') {c : Nat} : ms_cool t w' c = ms_cool t w c := by
  unfold ms_cool
  rw [h.lo (k := 8) (by omega)]
theorem WG.bound (h : WG w w') {b r : Nat} : ms_bound t w' b r = ms_bound t w b r := by
  unfold ms_bound
  rw [h.cool]
  by_cases c : ms_hot w b
  · rw [if_pos c, if_pos (h.hot.mpr c)]
  · rw [if_neg c, if_neg (fun z => c (h.hot.mp z))]
theorem WG.rem (h : WG w w') {b r : Nat} : ms_rem t w' b r = ms_rem t w b r := by
  unfold ms_rem
  rw [h.bound, h.hi (by omega)]
theorem WG.weak (h : WG w w') {b : Nat} : ∀ k, ms_weak t w' b k = ms_weak t w b k
  | 0 => rfl
  | k + 1 => by
    unfold ms_weak
    rw [h.weak k, h.rem, h.rem]
theorem WG.fnd (h : WG w w') {b : Nat} {l : Int32} : ∀ q, ms_fnd w' b l q = ms_fnd w b l q
  | 0 => rfl
  | q + 1 => by
    unfold ms_fnd
    have e : ms_wt w' b l q ↔ ms_wt w b l q := by
      unfold ms_wt
      rw [h.hi (by omega), h.hi (by omega), h.hi (by omega)]
    rw [h.fnd q]
    by_cases c : ms_wt w b l q
    · rw [if_pos c, if_pos (e.mpr c)]
      cases ms_fnd w b l q with
      | none => rfl
      | some f =>
        simp only []
        rw [h.hi (by omega), h.hi (by omega)]
    · rw [if_neg c, if_neg (fun z => c (e.mp z))]
theorem WG.wat (h : WG w w') {b C : Nat} {l : Int32} : ms_wat w' b C 0 l = ms_wat w b C 0 l := h.fnd C
theorem WG.late (h : WG w w') {f : Option Nat} : ms_late w' f ↔ ms_late w f := by
  cases f with
  | none => exact Iff.rfl
  | some q =>
    show (decide (w' 5 ≤ w' 8 - w' (375 + 6 * q + 2)) = true) ↔ (decide (w 5 ≤ w 8 - w (375 + 6 * q + 2)) = true)
    rw [h.lo (k := 5) (by omega), h.lo (k := 8) (by omega), h.hi (by omega)]
theorem WG.wish (h : WG w w') {C b k : Nat} : ms_wish t w' C b k = ms_wish t w C b k := by
  unfold ms_wish
  rw [h.rem, h.lo (k := 6) (by omega), h.wat, h.lo (k := 1) (by omega), h.lo (k := 2) (by omega), h.b (x := 0) (by omega)]
  by_cases c : ms_late w (ms_wat w b C 0 (-1))
  · rw [if_pos c, if_pos (h.late.mpr c)]
  · rw [if_neg c, if_neg (fun z => c (h.late.mp z))]
theorem WG.rank (h : WG w w') {wk wi : Nat → Nat} {b : Nat} : ms_rank t w' wk wi b = ms_rank t w wk wi b := by
  unfold ms_rank
  rw [h.rem, h.b (x := 0) (by omega)]
end WGS
