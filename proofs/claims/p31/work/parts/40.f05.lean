/-! THE LAW'S OWN MEMORY, 5: queues as requests come and go -/
theorem come_n {w : Nat → Int32} {p K : Nat} (h1 : K ≠ 375 + 6 * p + 3) (h2 : K ≠ 375 + 6 * p + 5) (h3 : K ≠ 10) : ms_come w p K = w K := by
  unfold ms_come
  rw [u1n h3, u1n h2, u1n h1]
theorem come_3 (w : Nat → Int32) (p : Nat) : ms_come w p (375 + 6 * p + 3) = 1 := by
  unfold ms_come
  rw [u1n (by omega), u1n (by omega), u1s]
theorem come_5 (w : Nat → Int32) (p : Nat) : ms_come w p (375 + 6 * p + 5) = w 10 := by
  unfold ms_come
  rw [u1n (by omega), u1s]
theorem come_10 (w : Nat → Int32) (p : Nat) : ms_come w p 10 = w 10 + 1 := by
  unfold ms_come
  rw [u1s]
theorem HO.come {w : Nat → Int32} {C K p : Nat} (h : HO w C K) (hp : p < C) (h0 : w (375 + 6 * p + 3) = 0) : HO (ms_come w p) C (K + 1) := by
  obtain ⟨h1, h2, h3, h4⟩ := h
  refine ⟨by rw [come_10, h1, ni_1], by rw [ms_cm_come h0 hp, h2], h3, fun q hq hs => ?_⟩
  by_cases e : q = p
  · subst e
    exact ⟨K, by omega, by rw [come_5, h1]⟩
  · rw [come_n (by omega) (by omega) (by omega)] at hs
    obtain ⟨x, a1, a2⟩ := h4 q hq hs
    exact ⟨x, by omega, by rw [come_n (by omega) (by omega) (by omega), a2]⟩
theorem HO.lt {w : Nat → Int32} {C K p : Nat} (h : HO w C K) (hp : p < C) (h0 : w (375 + 6 * p + 3) = 0) : K < 40 := by
  obtain ⟨-, h2, h3, -⟩ := h
  have := ms_cm_lt h0 hp
  omega
/-- one more comes -/
theorem QR.come {w u : Nat → Int32} {C K p b : Nat} (h : QR w u C) (hk : HO w C K) (hp : p < C) (h0 : w (375 + 6 * p + 3) = 0) (hb : b < 4) (hw : w (375 + 6 * p + 0) = Int32.ofNat b) :
    ∃ l, QL u b l ∧ l.length < 40 ∧ ∀ u', QL u' b (l ++ [p]) → (∀ K, K ≠ 5 * b + 0 → K ≠ 100 + 40 * b + l.length → u' K = u K) → QR (ms_come w p) u' C := by
  have hK := hk.lt hp h0
  obtain ⟨l, hs, hl⟩ := h b hb
  have hlen := SF.len hk (p := 0) (Nat.zero_le _) hs
  refine ⟨l, hl, by omega, fun u' g1 g2 b' hb' => ?_⟩
  by_cases e : b' = b
  · subst e
    refine ⟨l ++ [p], SF.add (Nat.le_refl C) hp (come_3 w p) (by rw [come_n (by omega) (by omega) (by omega), hw]) (fun last q hq z e => ?_) (fun last q hq hne => ?_) (fun last q hq z => ?_) hs ?_, g1⟩
    · subst e
      rw [z.1] at h0
      exact absurd h0 (by decide)
    · unfold ms_wt
      rw [come_n (by omega) (by omega) (by omega), come_n (by omega) (by omega) (by omega), come_n (by omega) (by omega) (by omega)]
      exact ⟨fun z => ⟨hq, z⟩, fun z => z.2⟩
    · have hne : q ≠ p := fun e => by
        subst e
        rw [z.1] at h0
        exact absurd h0 (by decide)
      obtain ⟨x, a1, a2⟩ := hk.2.2.2 q hq (by rw [z.1]; decide)
      refine ⟨come_n (by omega) (by omega) (by omega), ?_⟩
      rw [come_5, a2, hk.1]
      exact (ni_lt (by omega) (by omega)).mpr a1
    · rw [come_5, hk.1]
      exact (ms_L_lt (p := 0) (by omega) (by omega)).mpr (Nat.zero_le _)
  · obtain ⟨l', hs', hl'⟩ := h b' hb'
    refine ⟨l', SF.same hs' (fun q hq => ?_) (fun q hq z => ?_), ?_, hl'.2.1, fun j x hj => ?_⟩
    · by_cases c : q = p
      · subst c
        refine ⟨fun z => absurd (h0.symm.trans z.1) (by decide), fun z => ?_⟩
        have z2 := z.2.1
        rw [come_n (by omega) (by omega) (by omega), hw] at z2
        exact absurd ((ni_eq (by omega) (by omega)).mp z2).symm e
      · unfold ms_wt
        rw [come_n (by omega) (by omega) (by omega), come_n (by omega) (by omega) (by omega), come_n (by omega) (by omega) (by omega)]
    · have hne : q ≠ p := fun e => by
        subst e
        rw [z.1] at h0
        exact absurd h0 (by decide)
      exact come_n (by omega) (by omega) (by omega)
    · rw [g2 _ (by omega) (by omega)]
      exact hl'.1
    · have hjl := (List.getElem?_eq_some_iff.mp hj).1
      have := hl'.2.1
      rw [g2 _ (by omega) (by omega)]
      exact hl'.2.2 j x hj
/-- what is not of requests doesn't matter -/
theorem QR.hi {w w' u u' : Nat → Int32} {C : Nat} (h : QR w u C) (hw : ∀ k, 375 ≤ k → w' k = w k) (hu : ∀ b, b < 4 → u' (5 * b + 0) = u (5 * b + 0) ∧ ∀ j, j < 40 → u' (100 + 40 * b + j) = u (100 + 40 * b + j)) : QR w' u' C := fun b hb => by
  obtain ⟨l, hs, hl⟩ := h b hb
  refine ⟨l, SF.same hs (fun q hq => ?_) (fun q hq z => hw _ (by omega)), ?_, hl.2.1, fun j x hj => ?_⟩
  · unfold ms_wt
    rw [hw _ (by omega), hw _ (by omega), hw _ (by omega)]
  · rw [(hu b hb).1]
    exact hl.1
  · have hjl := (List.getElem?_eq_some_iff.mp hj).1
    have := hl.2.1
    rw [(hu b hb).2 j (by omega)]
    exact hl.2.2 j x hj
theorem HO.hi {w w' : Nat → Int32} {C K : Nat} (h : HO w C K) (hw : ∀ k, 375 ≤ k → w' k = w k) (h10 : w' 10 = w 10) : HO w' C K := by
  obtain ⟨h1, h2, h3, h4⟩ := h
  refine ⟨h10.trans h1, by rw [h2, ms_cm_hi hw], h3, fun q hq hs => ?_⟩
  rw [hw _ (by omega)] at hs
  obtain ⟨x, a1, a2⟩ := h4 q hq hs
  exact ⟨x, a1, by rw [hw _ (by omega)]; exact a2⟩
/-- the first of a bank is served -/
theorem QR.serve {w w' u u' : Nat → Int32} {C b p : Nat} {l : List Nat} (h : QR w u C) (hs : SF w b C (-1) (p :: l)) (hb : b < 4) (h3 : w' (375 + 6 * p + 3) = 2) (hw : ∀ q, q < C → q ≠ p → w' (375 + 6 * q + 3) = w (375 + 6 * q + 3)) (h0 : ∀ q, q < C → w' (375 + 6 * q + 0) = w (375 + 6 * q + 0) ∧ w' (375 + 6 * q + 5) = w (375 + 6 * q + 5))
    (hl : QL u' b l) (hu : ∀ K, K ≠ 5 * b + 0 → ¬ (100 + 40 * b ≤ K ∧ K < 100 + 40 * b + 40) → u' K = u K) : QR w' u' C := fun b' hb' => by
  have hwb : w (375 + 6 * p + 0) = Int32.ofNat b := hs.1.2.1.2.1
  by_cases e : b' = b
  · subst e
    refine ⟨l, SF.same hs.2 (fun q hq => ⟨fun z => ?_, fun z => ?_⟩) (fun q hq z => (h0 q hq).2), hl⟩
    · have hne : q ≠ p := fun e => by
        subst e
        exact Int32.lt_irrefl z.2.2
      refine ⟨by rw [hw q hq hne]; exact z.1, by rw [(h0 q hq).1]; exact z.2.1, by rw [(h0 q hq).2]; exact Int32.lt_trans hs.1.2.1.2.2 z.2.2⟩
    · have hne : q ≠ p := fun e => by
        subst e
        have := z.1
        rw [h3] at this
        exact absurd this (by decide)
      obtain ⟨z1, z2, z3⟩ := z
      rw [hw q hq hne] at z1
      rw [(h0 q hq).1] at z2
      rw [(h0 q hq).2] at z3
      exact ⟨z1, z2, hs.1.2.2 q hq ⟨z1, z2, z3⟩ hne⟩
  · obtain ⟨l', hs', hl'⟩ := h b' hb'
    refine ⟨l', SF.same hs' (fun q hq => ?_) (fun q hq z => (h0 q hq).2), ?_, hl'.2.1, fun j x hj => ?_⟩
    · by_cases c : q = p
      · subst c
        refine ⟨fun z => absurd ((ni_eq (by omega) (by omega)).mp (hwb.symm.trans z.2.1)).symm e, fun z => ?_⟩
        have := z.1
        rw [h3] at this
        exact absurd this (by decide)
      · unfold ms_wt
        rw [hw q hq c, (h0 q hq).1, (h0 q hq).2]
    · rw [hu _ (by omega) (by omega)]
      exact hl'.1
    · have hjl := (List.getElem?_eq_some_iff.mp hj).1
      have := hl'.2.1
      rw [hu _ (by omega) (by omega)]
      exact hl'.2.2 j x hj
theorem HO.serve {w w' : Nat → Int32} {C K p : Nat} (h : HO w C K) (h0 : w (375 + 6 * p + 3) ≠ 0) (h3 : w' (375 + 6 * p + 3) ≠ 0) (hw : ∀ q, q < C → q ≠ p → w' (375 + 6 * q + 3) = w (375 + 6 * q + 3)) (h5 : ∀ q, q < C → w' (375 + 6 * q + 5) = w (375 + 6 * q + 5)) (h10 : w' 10 = w 10) : HO w' C K := by
  obtain ⟨h1, h2, h3', h4⟩ := h
  have hz : ∀ q, q < C → (w (375 + 6 * q + 3) = 0 ↔ w' (375 + 6 * q + 3) = 0) := fun q hq => by
    by_cases c : q = p
    · subst c
      exact ⟨fun z => absurd z h0, fun z => absurd z h3⟩
    · rw [hw q hq c]
  refine ⟨h10.trans h1, by rw [h2]; exact ms_cm_c hz, h3', fun q hq hs => ?_⟩
  obtain ⟨x, a1, a2⟩ := h4 q hq (fun z => hs ((hz q hq).mp z))
  exact ⟨x, a1, by rw [h5 q hq]; exact a2⟩
