/-! THE LAW'S METHODS, 17: what the law writes, cut into tokens -/
theorem gD_app {L M : List Int32} {k : Nat} (h : k < L.length) : (L ++ M).getD k 0 = L.getD k 0 := by rw [List.getD_eq_getElem?_getD, List.getD_eq_getElem?_getD, List.getElem?_append_left h]
theorem gD_ge {L M : List Int32} {k : Nat} : (L ++ M).getD (L.length + k) 0 = M.getD k 0 := by rw [List.getD_eq_getElem?_getD, List.getD_eq_getElem?_getD, List.getElem?_append_right (by omega), Nat.add_sub_cancel_left]
/-- the text L lies at p -/
def TX (b : Nat → Int32) (p : Nat) (L : List Int32) : Prop := ∀ k, k < L.length → b (p + k) = L.getD k 0
theorem TX_app {b : Nat → Int32} {p : Nat} {L M : List Int32} : TX b p (L ++ M) ↔ TX b p L ∧ TX b (p + L.length) M := by
  unfold TX
  refine ⟨fun h => ⟨fun k hk => ?_, fun k hk => ?_⟩, fun h k hk => ?_⟩
  · rw [h k (by rw [List.length_append]; omega), gD_app hk]
  · rw [Nat.add_assoc, h (L.length + k) (by rw [List.length_append]; omega), gD_ge]
  · by_cases c : k < L.length
    · rw [gD_app c]
      exact h.1 k c
    · obtain ⟨x, rfl⟩ : ∃ x, k = L.length + x := ⟨k - L.length, by omega⟩
      rw [gD_ge, ← h.2 x (by rw [List.length_append] at hk; omega), Nat.add_assoc]
theorem TX_cons {b : Nat → Int32} {p : Nat} {x : Int32} {L : List Int32} (h : TX b p (x :: L)) : b p = x ∧ TX b (p + 1) L := by
  have h' : TX b p ([x] ++ L) := h
  obtain ⟨h1, h2⟩ := TX_app.mp h'
  exact ⟨h1 0 (Nat.zero_lt_one), h2⟩
/-- a number below 100, as it is written -/
def dg (v : Nat) : List Int32 := if v < 10 then [Int32.ofNat (48 + v)] else [Int32.ofNat (48 + v / 10), Int32.ofNat (48 + v % 10)]
/-- a string of the program -/
def sbl (j : Nat) : List Int32 := ev_sy.getD j []
theorem sbl_len (j : Nat) : (sbl j).length = ev_sl j := rfl
theorem sbl_get (j k : Nat) : (sbl j).getD k 0 = ev_sb j k := rfl
theorem tk_gm {q : Int32 → Bool} {b : Nat → Int32} {len : Nat} : ∀ m k, k + m < len → (∀ x, x < m → q (b (k + x)) = true) → ¬ q (b (k + m)) = true → tk_g q b len k = k + m
  | 0, k, h, _, h2 => tk_gn h h2
  | m + 1, k, h, h1, h2 => by
    rw [tk_gs (by omega) (by have := h1 0 (by omega); rwa [Nat.add_zero] at this), tk_gm m (k + 1) (by omega) (fun x hx => by have := h1 (x + 1) (by omega); rwa [show k + (x + 1) = k + 1 + x by omega] at this) (by rwa [show k + 1 + m = k + (m + 1) by omega])]
    omega
theorem tk_sn {b : Nat → Int32} {len p : Nat} (h : p < len) (h5 : tk_c (b p) ≠ 5) : tk_s b len p = p := tk_gn h (by unfold tk_q; simpa using h5)
theorem tk_s1 {b : Nat → Int32} {len p : Nat} (h : p + 1 < len) (h0 : b p = 32) (h5 : tk_c (b (p + 1)) ≠ 5) : tk_s b len p = p + 1 := by
  unfold tk_s
  rw [tk_gs (by omega) (by rw [h0]; decide)]
  exact tk_gn h (by unfold tk_q; simpa using h5)
theorem tk_semi {b : Nat → Int32} {len p : Nat} (h : p < len) (h0 : b p = 59) : tk_k b len p = 3 ∧ tk_e b len p = p + 1 := by
  have hs : tk_s b len p = p := tk_sn h (by rw [h0]; decide)
  have hz : tk_z b len p = 3 := by
    unfold tk_z
    rw [hs, h0]
    decide
  have he : tk_e b len p = p + 1 := by
    unfold tk_e
    rw [hs, if_pos h, hz, if_neg (by decide)]
  refine ⟨?_, he⟩
  unfold tk_k
  rw [hs, if_pos h, hz]
  unfold tk_l
  rw [if_neg (by decide), if_neg (by decide)]
theorem tk_end {b : Nat → Int32} {len : Nat} : tk_k b len len = 0 := by
  have hs : tk_s b len len = len := tk_ge (by omega)
  unfold tk_k
  rw [hs, if_neg (by omega)]
/-- a run of letters or digits at s -/
theorem tk_run {b : Nat → Int32} {len p s m : Nat} {c : Int32} (hc : c = 1 ∨ c = 2) (hs : tk_s b len p = s) (hm : 1 ≤ m) (hl : s + m < len) (h : ∀ x, x < m → tk_c (b (s + x)) = c) (hn : tk_c (b (s + m)) ≠ c) : tk_z b len p = c ∧ tk_e b len p = s + m := by
  have hz : tk_z b len p = c := by
    unfold tk_z
    rw [hs]
    exact h 0 (by omega)
  refine ⟨hz, ?_⟩
  unfold tk_e
  have a1 : ∀ x, x < m - 1 → tk_q c (b (s + 1 + x)) = true := fun x hx => by
    unfold tk_q
    have := h (x + 1) (by omega)
    rw [show s + 1 + x = s + (x + 1) by omega, this]
    simp
  have a2 : ¬ tk_q c (b (s + 1 + (m - 1))) = true := by
    unfold tk_q
    rw [show s + 1 + (m - 1) = s + m by omega]
    simpa using hn
  rw [hs, if_pos (by omega), hz, if_pos hc, tk_gm (m - 1) (s + 1) (by omega) a1 a2]
  omega
theorem dg_c (v : Nat) (h : v < 10) : tk_c (Int32.ofNat (48 + v)) = 2 ∧ Int32.ofNat (48 + v) - 48 = Int32.ofNat v := by
  have : ∀ v, v < 10 → tk_c (Int32.ofNat (48 + v)) = 2 ∧ Int32.ofNat (48 + v) - 48 = Int32.ofNat v := by decide
  exact this v h
/-- a blank and a number -/
theorem tk_num {b : Nat → Int32} {len p v : Nat} {L : List Int32} (hv : v < 100) (h : TX b p (32 :: dg v ++ L)) (hL : ∀ x, L.getD 0 0 = x → tk_c x ≠ 2) (hl : p + 1 + (dg v).length < len) (hL1 : 1 ≤ L.length) :
    tk_k b len p = 2 ∧ tk_e b len p = p + 1 + (dg v).length ∧ tk_n b len p = Int32.ofNat v := by
  obtain ⟨h0, h1⟩ := TX_cons (L := dg v ++ L) h
  obtain ⟨h2, h3⟩ := TX_app.mp h1
  have hn : tk_c (b (p + 1 + (dg v).length)) ≠ 2 := by
    have := h3 0 (by omega)
    rw [Nat.add_zero] at this
    exact hL _ this.symm
  unfold dg at h2 hn hl ⊢
  by_cases c : v < 10
  · rw [if_pos c] at h2 hn hl ⊢
    obtain ⟨d1, -⟩ := TX_cons h2
    obtain ⟨c1, c2⟩ := dg_c v c
    have hs : tk_s b len p = p + 1 := tk_s1 (by have : p + 1 + 1 < len := hl; omega) h0 (by rw [d1, c1]; decide)
    obtain ⟨r1, r2⟩ := tk_run (.inr rfl) hs (m := 1) (by omega) hl (fun x hx => by
      have : x = 0 := by omega
      subst this
      rw [Nat.add_zero, d1, c1]) hn
    refine ⟨?_, r2, ?_⟩
    · unfold tk_k
      rw [hs, if_pos (by have : p + 1 + 1 < len := hl; omega), r1, r2]
      unfold tk_l
      rw [if_neg (by decide), if_pos rfl, if_pos (by omega)]
    · unfold tk_n
      rw [hs, r2, show p + 1 + 1 - (p + 1) = 1 by omega]
      show (10 : Int32) * 0 + (b (p + 1 + 0) - 48) = _
      rw [Nat.add_zero, d1, c2]
      simp
  · rw [if_neg c] at h2 hn hl ⊢
    obtain ⟨d1, h4⟩ := TX_cons h2
    obtain ⟨d2, -⟩ := TX_cons h4
    obtain ⟨c1, c2⟩ := dg_c (v / 10) (by omega)
    obtain ⟨c3, c4⟩ := dg_c (v % 10) (by omega)
    have hl' : p + 1 + 2 < len := hl
    have hs : tk_s b len p = p + 1 := tk_s1 (by omega) h0 (by rw [d1, c1]; decide)
    obtain ⟨r1, r2⟩ := tk_run (.inr rfl) hs (m := 2) (by omega) hl' (fun x hx => by
      by_cases e : x = 0
      · subst e
        rw [Nat.add_zero, d1, c1]
      · have : x = 1 := by omega
        subst this
        rw [d2, c3]) hn
    refine ⟨?_, r2, ?_⟩
    · unfold tk_k
      rw [hs, if_pos (by omega), r1, r2]
      unfold tk_l
      rw [if_neg (by decide), if_pos rfl, if_pos (by omega)]
    · unfold tk_n
      rw [hs, r2, show p + 1 + 2 - (p + 1) = 2 by omega]
      show (10 : Int32) * ((10 : Int32) * 0 + (b (p + 1 + 0) - 48)) + (b (p + 1 + 1) - 48) = _
      rw [Nat.add_zero, d1, c2, d2, c4]
      have e10 : (10 : Int32) * ((10 : Int32) * 0 + Int32.ofNat (v / 10)) = Int32.ofNat (10 * (v / 10)) := by
        rw [Int32.ofNat_mul]
        simp
      rw [e10, ← Int32.ofNat_add]
      congr 1
      omega
/-- a word of the reference -/
theorem tk_word {b : Nat → Int32} {len p j : Nat} {L : List Int32} (hj : 24 ≤ j ∧ j < 35) (h : TX b p (sbl j ++ L)) (hL : ∀ x, L.getD 0 0 = x → tk_c x ≠ 1) (hl : p + ev_sl j < len) (hL1 : 1 ≤ L.length) :
    tk_is b len p j ∧ tk_e b len p = p + ev_sl j := by
  have all : ∀ j, j < 11 → 1 ≤ ev_sl (24 + j) ∧ ev_sl (24 + j) ≤ 8 ∧ ∀ i, i < ev_sl (24 + j) → tk_c (ev_sb (24 + j) i) = 1 := by decide +kernel
  obtain ⟨a1, a2, a3⟩ := all (j - 24) (by omega)
  rw [show 24 + (j - 24) = j by omega] at a1 a2 a3
  obtain ⟨h1, h2⟩ := TX_app.mp h
  have hb : ∀ i, i < ev_sl j → b (p + i) = ev_sb j i := fun i hi => h1 i hi
  have hn : tk_c (b (p + ev_sl j)) ≠ 1 := by
    have := h2 0 (by omega)
    rw [Nat.add_zero] at this
    exact hL _ this.symm
  have hs : tk_s b len p = p := tk_sn (by omega) (by have := hb 0 (by omega); rw [Nat.add_zero] at this; rw [this, a3 0 (by omega)]; decide)
  obtain ⟨r1, r2⟩ := tk_run (.inl rfl) hs (m := ev_sl j) a1 hl (fun x hx => by rw [hb x hx, a3 x hx]) hn
  refine ⟨⟨?_, by rw [r2, hs]; omega, fun i hi => by rw [hs]; exact hb i hi⟩, r2⟩
  unfold tk_k
  rw [hs, if_pos (by omega), r1, r2]
  unfold tk_l
  rw [if_pos rfl, if_pos (by omega)]
theorem tk_no {b : Nat → Int32} {len p j j' : Nat} (hj : 24 ≤ j ∧ j < 35) (hj' : 24 ≤ j' ∧ j' < 35) (hne : j' ≠ j) (h : tk_is b len p j) : ¬ tk_is b len p j' := fun h' => by
  have all : ∀ j, j < 11 → ∀ j', j' < 11 → j' ≠ j → ev_sl (24 + j') ≠ ev_sl (24 + j) ∨ ∃ i, i < ev_sl (24 + j) ∧ ev_sb (24 + j') i ≠ ev_sb (24 + j) i := by decide +kernel
  have a := all (j - 24) (by omega) (j' - 24) (by omega) (by omega)
  rw [show 24 + (j - 24) = j by omega, show 24 + (j' - 24) = j' by omega] at a
  rcases a with a | ⟨i, hi, a⟩
  · exact a (h'.2.1.symm.trans h.2.1)
  · exact a ((h'.2.2 i (by rw [← h'.2.1, h.2.1]; exact hi)).symm.trans (h.2.2 i hi))
