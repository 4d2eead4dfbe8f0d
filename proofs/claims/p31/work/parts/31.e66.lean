/-! THE PROGRAM AGAINST THE REFERENCE, 52: words -/
/-- the token at p is word j -/
def tk_is (b : Nat → Int32) (len p j : Nat) : Prop := tk_k b len p = 1 ∧ tk_e b len p - tk_s b len p = ev_sl j ∧ ∀ i, i < ev_sl j → b (tk_s b len p + i) = ev_sb j i
/-- the words of the two sides -/
theorem tk_words : ∀ k, k < 11 → ev_sl (1 + k) = ev_sl (24 + k) ∧ ev_sl (1 + k) ≤ 8 ∧ ∀ i, i < ev_sl (1 + k) → ev_sb (1 + k) i = ev_sb (24 + k) i ∧ ((((ev_sb (1 + k) i) &&& (255 : Int32))).toUInt32 % 65536).toInt32 = ev_sb (1 + k) i ∧ ev_ok 3 (ev_sb (1 + k) i) = true := by
  decide +kernel
/-- word j is well kept -/
def tk_ok (j : Nat) : Prop := ev_sl j ≤ 8 ∧ ∀ i, i < ev_sl j → ((((ev_sb j i) &&& (255 : Int32))).toUInt32 % 65536).toInt32 = ev_sb j i ∧ ev_ok 3 (ev_sb j i) = true
theorem tk_ok1 {k : Nat} (h : k < 11) : tk_ok (1 + k) := ⟨(tk_words k h).2.1, fun i hi => ((tk_words k h).2.2 i hi).2⟩
theorem tk_ok2 {k : Nat} (h : k < 11) : tk_ok (24 + k) := by
  obtain ⟨h1, h2, h3⟩ := tk_words k h
  refine ⟨by omega, fun i hi => ?_⟩
  obtain ⟨a, b, c⟩ := h3 i (by omega)
  rw [← a]
  exact ⟨b, c⟩
theorem tk_is2 {b : Nat → Int32} {len p k : Nat} (h : k < 11) : tk_is b len p (1 + k) ↔ tk_is b len p (24 + k) := by
  obtain ⟨h1, -, h3⟩ := tk_words k h
  unfold tk_is
  rw [← h1]
  refine ⟨fun v => ⟨v.1, v.2.1, fun i hi => by rw [v.2.2 i hi, (h3 i hi).1]⟩, fun v => ⟨v.1, v.2.1, fun i hi => by rw [v.2.2 i hi, (h3 i hi).1]⟩⟩
section EC41
variable {n : Nat} {lk : Nat → Nat → Nat → Bool} {d : Nat → Nat → Nat → Int32} {o : ev_W}
theorem em_slen {j : Nat} {μ : ev_M} : EV (2, 0, [ev_R 100 j], [], 0, 0) μ = some (.inl (some (ev_I (Int32.ofNat (ev_sl j)))), μ) := by
  obtain ⟨n, lk, d, o⟩ := μ
  have e4 : EV (4, 0, [ev_R 100 j], [], 0, 0) (n, lk, d, o) = some (.inl (some (ev_I 0)), (n, lk, d, o)) := EV_bk (k := 400) (by rw [bk_4_0])
  refine EV_bk (k := 400) ?_
  rw [bk_2_0, e4]
  simp only [ev_bi]
  rw [show (Int32.ofNat (ev_sl j) >>> ((0 : Int32) &&& 31)) = Int32.ofNat (ev_sl j) from by rw [show ((0 : Int32) &&& 31) = 0 from by decide]; exact Int32.shiftRight_zero]
theorem em_char {j i : Nat} {μ : ev_M} (h : tk_ok j) (hi : i < ev_sl j) : EV (3, 0, [ev_R 100 j, ev_I (Int32.ofNat i)], [], 0, 0) μ = some (.inl (some (ev_I (ev_sb j i))), μ) := by
  obtain ⟨n, lk, d, o⟩ := μ
  obtain ⟨h8, h2⟩ := h
  obtain ⟨h3, h4⟩ := h2 i hi
  have e9 : EV (9, 0, [ev_I (Int32.ofNat i), ev_I (Int32.ofNat (ev_sl j)), ev_R 107 0], [], 0, 0) (n, lk, d, o) = some (.inl (some (ev_I (Int32.ofNat i))), (n, lk, d, o)) := by
    refine EV_bk (k := 400) ?_
    rw [bk_9_0, if_neg (show ¬ Int32.ofNat i < 0 from Int32.not_lt.mpr (ni_lo (by omega))), if_pos ((ni_lt (by omega) (by omega)).mpr hi)]
  have e6 : EV (6, 0, [ev_I (Int32.ofNat i), ev_I (Int32.ofNat (ev_sl j))], [], 0, 0) (n, lk, d, o) = some (.inl none, (n, lk, d, o)) := by
    refine EV_bk (k := 400) ?_
    rw [bk_6_0, e9]
    rfl
  have e7 : EV (7, 0, [ev_R 101 j, ev_I (Int32.ofNat i)], [], 0, 0) (n, lk, d, o) = some (.inl (some (ev_I (ev_sb j i))), (n, lk, d, o)) := by
    refine EV_bk (k := 400) ?_
    rw [bk_7_0_101, e6]
    simp only [ev_bv]
    rw [ni_in hi (by omega), cond_true, ni_c (by omega), h3, h4, cond_true]
  have e5 : EV (5, 0, [ev_R 100 j], [], 0, 0) (n, lk, d, o) = some (.inl (some (ev_I 1)), (n, lk, d, o)) := EV_bk (k := 400) (by rw [bk_5_0])
  refine EV_bk (k := 400) ?_
  rw [bk_3_0, e5]
  simp only [ev_bi]
  rw [if_neg (by decide), e7]
  simp only []
  rw [h4, cond_true]
/-- the program: is the token the word? -/
theorem ec_isWord (hl : LK lk) {b : Nat → Int32} {len p j : Nat} (hj : tk_ok j) (hp : p ≤ len) (hlen : len ≤ 600) (h3 : d 29 0 3 = tk_k b len p) (h4 : d 29 0 4 = Int32.ofNat (tk_s b len p)) (h5 : d 29 0 5 = Int32.ofNat (tk_e b len p)) (hb : ∀ x, x < len → d 30 0 x = b x) :
    (tk_is b len p j → EV (21, 0, [ev_R 29 0, ev_R 100 j], [], 0, 0) (n, lk, d, o) = some (.inl (some (ev_I 1)), (n, lk, d, o))) ∧ (¬ tk_is b len p j → EV (21, 0, [ev_R 29 0, ev_R 100 j], [], 0, 0) (n, lk, d, o) = some (.inl (some (ev_I 0)), (n, lk, d, o))) := by
  obtain ⟨a1, a2, -⟩ := tk_ele (b := b) hp
  have h8 := hj.1
  have loop : tk_e b len p - tk_s b len p = ev_sl j → ∀ m i, i + m = ev_sl j → (∀ x, x < i → b (tk_s b len p + x) = ev_sb j x) →
      ((∀ x, x < ev_sl j → b (tk_s b len p + x) = ev_sb j x) → EV (21, 28, [ev_R 29 0, ev_R 100 j, ev_I (Int32.ofNat i)], [], 0, 0) (n, lk, d, o) = some (.inl (some (ev_I 1)), (n, lk, d, o))) ∧ (¬ (∀ x, x < ev_sl j → b (tk_s b len p + x) = ev_sb j x) → EV (21, 28, [ev_R 29 0, ev_R 100 j, ev_I (Int32.ofNat i)], [], 0, 0) (n, lk, d, o) = some (.inl (some (ev_I 0)), (n, lk, d, o))) := by
    intro hlen2 m
    induction m with
    | zero =>
      intro i hi hx
      refine ⟨fun _ => ?_, fun v => absurd (fun x hx' => hx x (by omega)) v⟩
      refine EV_bk (k := 400) ?_
      rw [bk_21_28, em_slen]
      simp only [ev_bi]
      rw [if_neg (fun v => by have := (ni_lt (by omega) (by omega)).mp v; omega)]
    | succ m ih =>
      intro i hi hx
      have hlt : Int32.ofNat i < Int32.ofNat (ev_sl j) := (ni_lt (by omega) (by omega)).mpr (by omega)
      have pre : ∀ t : ev_O × ev_M, (if b (tk_s b len p + i) = ev_sb j i then EV (21, 28, [ev_R 29 0, ev_R 100 j, ev_I (Int32.ofNat (i + 1))], [], 0, 0) (n, lk, d, o) else some (.inl (some (ev_I (0 : Int32))), (n, lk, d, o))) = some t → EV (21, 28, [ev_R 29 0, ev_R 100 j, ev_I (Int32.ofNat i)], [], 0, 0) (n, lk, d, o) = some t := by
        intro t e
        refine EV_bk (k := 400) ?_
        rw [bk_21_28, em_slen]
        simp only [ev_bi]
        rw [if_pos hlt, hl 29 0 0 rfl (by decide) (by decide), cond_true]
        simp only [h4, ni_a, ni_in (n := tk_s b len p + i) (N := 600) (by omega) (by omega), ni_c (n := tk_s b len p + i) (by omega), cond_true]
        rw [em_char hj (by omega)]
        simp only []
        rw [hb _ (by omega), ni_1]
        exact e
      by_cases z : b (tk_s b len p + i) = ev_sb j i
      · obtain ⟨i1, i2⟩ := ih (i + 1) (by omega) (fun x hx' => by
          by_cases e : x = i
          · subst e
            exact z
          · exact hx x (by omega))
        exact ⟨fun v => pre _ (by rw [if_pos z]; exact i1 v), fun v => pre _ (by rw [if_pos z]; exact i2 v)⟩
      · exact ⟨fun v => absurd (v i (by omega)) z, fun _ => pre _ (by rw [if_neg z])⟩
  by_cases z1 : tk_k b len p = 1
  · by_cases z2 : tk_e b len p - tk_s b len p = ev_sl j
    · obtain ⟨l1, l2⟩ := loop z2 (ev_sl j) 0 (by omega) (fun x hx => by omega)
      have pre : ∀ t : ev_O × ev_M, EV (21, 28, [ev_R 29 0, ev_R 100 j, ev_I (Int32.ofNat 0)], [], 0, 0) (n, lk, d, o) = some t → EV (21, 0, [ev_R 29 0, ev_R 100 j], [], 0, 0) (n, lk, d, o) = some t := by
        intro t e
        refine EV_bk (k := 400) ?_
        rw [bk_21_0, h3, if_pos z1, em_slen]
        simp only [ev_bi]
        rw [h4, h5, ni_sb a1, z2, if_pos rfl]
        exact e
      exact ⟨fun v => pre _ (l1 v.2.2), fun v => pre _ (l2 (fun x => v ⟨z1, z2, x⟩))⟩
    · refine ⟨fun v => absurd v.2.1 z2, fun _ => ?_⟩
      refine EV_bk (k := 400) ?_
      rw [bk_21_0, h3, if_pos z1, em_slen]
      simp only [ev_bi]
      rw [h4, h5, ni_sb a1, if_neg (fun v => z2 ((ni_eq (by omega) (by omega)).mp v))]
  · refine ⟨fun v => absurd v.1 z1, fun _ => ?_⟩
    refine EV_bk (k := 400) ?_
    rw [bk_21_0, h3, if_neg z1]
/-- the reference: is the token the word? -/
theorem em_isWord (hl : LK lk) {b : Nat → Int32} {len p j : Nat} (hj : tk_ok j) (hp : p ≤ len) (ht : TB d b len) (hr : RT d b len p) :
    (tk_is b len p j → EV (138, 0, [ev_R 44 0, ev_R 100 j], [], 0, 0) (n, lk, d, o) = some (.inl (some (ev_I 1)), (n, lk, d, o))) ∧ (¬ tk_is b len p j → EV (138, 0, [ev_R 44 0, ev_R 100 j], [], 0, 0) (n, lk, d, o) = some (.inl (some (ev_I 0)), (n, lk, d, o))) := by
  obtain ⟨a1, a2, -⟩ := tk_ele (b := b) hp
  obtain ⟨h6, h7, h8', -⟩ := hr
  obtain ⟨hlen, -, hb⟩ := ht
  have h8 := hj.1
  have no : ∀ i, i ≤ ev_sl j → EV (138, 32, [ev_R 44 0, ev_R 100 j, ev_I 0, ev_I (Int32.ofNat i)], [], 0, 0) (n, lk, d, o) = some (.inl (some (ev_I 0)), (n, lk, d, o)) := by
    intro i hi
    refine EV_bk (k := 400) ?_
    rw [bk_138_32, em_slen]
    simp only [ev_bi]
    by_cases z : Int32.ofNat i < Int32.ofNat (ev_sl j)
    · rw [if_pos z, if_pos trivial]
      rfl
    · rw [if_neg z]
      rfl
  have loop : tk_e b len p - tk_s b len p = ev_sl j → ∀ m i, i + m = ev_sl j → (∀ x, x < i → b (tk_s b len p + x) = ev_sb j x) →
      ((∀ x, x < ev_sl j → b (tk_s b len p + x) = ev_sb j x) → EV (138, 32, [ev_R 44 0, ev_R 100 j, ev_I 1, ev_I (Int32.ofNat i)], [], 0, 0) (n, lk, d, o) = some (.inl (some (ev_I 1)), (n, lk, d, o))) ∧ (¬ (∀ x, x < ev_sl j → b (tk_s b len p + x) = ev_sb j x) → EV (138, 32, [ev_R 44 0, ev_R 100 j, ev_I 1, ev_I (Int32.ofNat i)], [], 0, 0) (n, lk, d, o) = some (.inl (some (ev_I 0)), (n, lk, d, o))) := by
    intro hlen2 m
    induction m with
    | zero =>
      intro i hi hx
      refine ⟨fun _ => ?_, fun v => absurd (fun x hx' => hx x (by omega)) v⟩
      refine EV_bk (k := 400) ?_
      rw [bk_138_32, em_slen]
      simp only [ev_bi]
      rw [if_neg (fun v => by have := (ni_lt (by omega) (by omega)).mp v; omega)]
      rfl
    | succ m ih =>
      intro i hi hx
      have hlt : Int32.ofNat i < Int32.ofNat (ev_sl j) := (ni_lt (by omega) (by omega)).mpr (by omega)
      have pre : ∀ t : ev_O × ev_M, (if b (tk_s b len p + i) = ev_sb j i then EV (138, 32, [ev_R 44 0, ev_R 100 j, ev_I 1, ev_I (Int32.ofNat (i + 1))], [], 0, 0) (n, lk, d, o) else EV (138, 32, [ev_R 44 0, ev_R 100 j, ev_I 0, ev_I (Int32.ofNat (i + 1))], [], 0, 0) (n, lk, d, o)) = some t → EV (138, 32, [ev_R 44 0, ev_R 100 j, ev_I 1, ev_I (Int32.ofNat i)], [], 0, 0) (n, lk, d, o) = some t := by
        intro t e
        refine EV_bk (k := 400) ?_
        rw [bk_138_32, em_slen]
        simp only [ev_bi]
        rw [if_pos hlt, if_neg (by decide), hl 44 0 3 rfl (by decide) (by decide), cond_true]
        simp only [h6, ni_a, ni_in (n := tk_s b len p + i) (N := 600) (by omega) (by omega), ni_c (n := tk_s b len p + i) (by omega), cond_true]
        rw [em_char hj (by omega)]
        simp only []
        rw [(hb _ (by omega)).1, ni_1]
        exact e
      by_cases z : b (tk_s b len p + i) = ev_sb j i
      · obtain ⟨i1, i2⟩ := ih (i + 1) (by omega) (fun x hx' => by
          by_cases e : x = i
          · subst e
            exact z
          · exact hx x (by omega))
        exact ⟨fun v => pre _ (by rw [if_pos z]; exact i1 v), fun v => pre _ (by rw [if_pos z]; exact i2 v)⟩
      · exact ⟨fun v => absurd (v i (by omega)) z, fun _ => pre _ (by rw [if_neg z]; exact no _ (by omega))⟩
  by_cases z1 : tk_k b len p = 1
  · by_cases z2 : tk_e b len p - tk_s b len p = ev_sl j
    · obtain ⟨l1, l2⟩ := loop z2 (ev_sl j) 0 (by omega) (fun x hx => by omega)
      have pre : ∀ t : ev_O × ev_M, EV (138, 32, [ev_R 44 0, ev_R 100 j, ev_I 1, ev_I (Int32.ofNat 0)], [], 0, 0) (n, lk, d, o) = some t → EV (138, 0, [ev_R 44 0, ev_R 100 j], [], 0, 0) (n, lk, d, o) = some t := by
        intro t e
        refine EV_bk (k := 400) ?_
        rw [bk_138_0, h8', if_pos z1, em_slen]
        simp only [ev_bi]
        rw [h6, h7, ni_sb a1, z2, if_pos rfl]
        exact e
      exact ⟨fun v => pre _ (l1 v.2.2), fun v => pre _ (l2 (fun x => v ⟨z1, z2, x⟩))⟩
    · refine ⟨fun v => absurd v.2.1 z2, fun _ => ?_⟩
      refine EV_bk (k := 400) ?_
      rw [bk_138_0, h8', if_pos z1, em_slen]
      simp only [ev_bi]
      rw [h6, h7, ni_sb a1, if_neg (fun v => z2 ((ni_eq (by omega) (by omega)).mp v))]
      exact no 0 (by omega)
  · refine ⟨fun v => absurd v.1 z1, fun _ => ?_⟩
    refine EV_bk (k := 400) ?_
    rw [bk_138_0, h8', if_neg z1]
    exact no 0 (by omega)
end EC41
