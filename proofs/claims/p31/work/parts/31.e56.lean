/-! THE PROGRAM AGAINST THE REFERENCE, 42: calls that change -/
theorem GH_keep {d d1 d2 d3 : Nat → Nat → Nat → Int32} {B R T C τ e c : Nat} (he10 : e < 10) (hc10 : c ≤ 10) (hk : ∀ k, k < c → ∃ C τ, τ ≤ 2000 ∧ GS d (3 + (e + 10 - c + k) % 10) (fun j => d 58 0 (615 * k + j)) B R C T τ)
    (g4 : GS d 1 (d 46 0) B R C T τ) (hτ : τ ≤ 2000) (r1 : ∀ r, r < 24 → ∀ x, x ≠ e + 3 → d1 r x = d r x) (r3 : ∀ i B R C T τ w, GS d 1 w B R C T τ → i = e + 3 → GS d1 i w B R C T τ)
    (r4 : d1 39 0 1 = Int32.ofNat (if e < 9 then e + 1 else 0)) (r5 : d1 39 0 2 = Int32.ofNat (if c < 10 then c + 1 else 10))
    (m1 : ∀ r x, r < 24 → 3 ≤ x → x < 13 → d3 r x = d1 r x) (m2 : d3 39 0 = d1 39 0) (kp : KP d2 d3 c) (m58 : d2 58 0 = d 58 0) (m46 : ∀ j, j < 615 → d2 46 0 j = d 46 0 j) : GH d3 B R T := by
  obtain ⟨-, -, k25, kA, kB⟩ := kp
  refine ⟨if e < 9 then e + 1 else 0, if c < 10 then c + 1 else 10, by split <;> omega, by split <;> omega, by rw [m2, r4], by rw [m2, r5], k25, fun k hkc => ?_⟩
  by_cases z : c < 10
  · rw [if_pos z] at hkc ⊢
    by_cases y : k < c
    · obtain ⟨C', τ', hτ', g⟩ := hk k y
      have ei : 3 + ((if e < 9 then e + 1 else 0) + 10 - (c + 1) + k) % 10 = 3 + (e + 10 - c + k) % 10 := by split <;> omega
      rw [ei]
      refine ⟨C', τ', hτ', GS_w (GS_d g (fun r hr => by rw [m1 r _ hr (by omega) (by omega), r1 r hr _ (by omega)])) (fun j hj => ?_)⟩
      show d3 58 0 (615 * k + j) = d 58 0 (615 * k + j)
      rw [kA z k j (by omega) hj, if_pos y, m58]
    · have ek : k = c := by omega
      subst ek
      have ei : 3 + ((if e < 9 then e + 1 else 0) + 10 - (k + 1) + k) % 10 = e + 3 := by split <;> omega
      rw [ei]
      refine ⟨C, τ, hτ, GS_w (GS_d (r3 (e + 3) B R C T τ (d 46 0) g4 rfl) (fun r hr => m1 r _ hr (by omega) (by omega))) (fun j hj => ?_)⟩
      show d3 58 0 (615 * k + j) = d 46 0 j
      rw [kA z k j (by omega) hj, if_neg (by omega), m46 j hj]
  · have ec : c = 10 := by omega
    subst ec
    rw [if_neg z] at hkc ⊢
    by_cases y : k < 9
    · obtain ⟨C', τ', hτ', g⟩ := hk (k + 1) (by omega)
      have ei : 3 + ((if e < 9 then e + 1 else 0) + 10 - 10 + k) % 10 = 3 + (e + 10 - 10 + (k + 1)) % 10 := by split <;> omega
      rw [ei]
      refine ⟨C', τ', hτ', GS_w (GS_d g (fun r hr => by rw [m1 r _ hr (by omega) (by omega), r1 r hr _ (by omega)])) (fun j hj => ?_)⟩
      show d3 58 0 (615 * k + j) = d 58 0 (615 * (k + 1) + j)
      rw [kB rfl k j (by omega) hj, if_pos y, m58]
    · have ek : k = 9 := by omega
      subst ek
      have ei : 3 + ((if e < 9 then e + 1 else 0) + 10 - 10 + 9) % 10 = e + 3 := by split <;> omega
      rw [ei]
      refine ⟨C, τ, hτ, GS_w (GS_d (r3 (e + 3) B R C T τ (d 46 0) g4 rfl) (fun r hr => m1 r _ hr (by omega) (by omega))) (fun j hj => ?_)⟩
      show d3 58 0 (615 * 9 + j) = d 46 0 j
      rw [kB rfl 9 j (by omega) hj, if_neg (by omega), m46 j hj]
/-- a call that keeps what was and then changes the memory -/
theorem GI_change {d d1 d2 d3 d4 : Nat → Nat → Nat → Int32} {B R T C τ C' τ' e c : Nat} {w' : Nat → Int32} (g1 : TC (d 45 0) B R) (g2 : CL d 1 (d 45 0)) (g3 : d 24 1 4 = Int32.ofNat T ∧ T ≤ 20) (g4 : GS d 1 (d 46 0) B R C T τ) (hτ : τ ≤ 2000) (g5 : GT d) (g6 : d 27 0 8 = d 44 0 11) (g8 : GN d B R T)
    (he10 : e < 10) (hc10 : c ≤ 10) (hk : ∀ k, k < c → ∃ C τ, τ ≤ 2000 ∧ GS d (3 + (e + 10 - c + k) % 10) (fun j => d 58 0 (615 * k + j)) B R C T τ)
    (r1 : ∀ r, r < 24 → ∀ x, x ≠ e + 3 → d1 r x = d r x) (r2 : ∀ r, 24 ≤ r → r ≠ 39 → d1 r = d r) (r3 : ∀ i B R C T τ w, GS d 1 w B R C T τ → i = e + 3 → GS d1 i w B R C T τ)
    (r4 : d1 39 0 1 = Int32.ofNat (if e < 9 then e + 1 else 0)) (r5 : d1 39 0 2 = Int32.ofNat (if c < 10 then c + 1 else 10))
    (f : FT d1 d2 1) (s2 : GS d2 1 w' B R C' T τ') (hτ' : τ' ≤ 2000) (kp : KP (ev_u3 d2 44 0 0 0) d3 c) (m : ∀ r, r ≠ 46 → (r < 51 ∨ 57 < r) → d4 r = d3 r) (m46 : ∀ j, j < 615 → d4 46 0 j = w' j) : SC d d4 ∧ GI d4 := by
  have f2 : ∀ r, 24 ≤ r → (r < 33 ∨ 38 < r) → r ≠ 39 → d2 r = d r := fun r h1 h2 h3 => (funext fun j => f r j (.inl ⟨h1, h2⟩)).trans (r2 r h1 h3)
  have fs : ∀ r x, r < 24 → x ≠ 1 → d2 r x = d1 r x := fun r x h1 h2 => f r x (.inr ⟨h1, h2⟩)
  obtain ⟨k1, k44, k25, kA, kB⟩ := id kp
  have f3 : ∀ r, r ≠ 44 → r ≠ 58 → d3 r = d2 r := fun r h1 h2 => (k1 r h1 h2).trans (u3n h1)
  have f4 : ∀ r, 24 ≤ r → (r < 33 ∨ 38 < r) → r ≠ 39 → r ≠ 44 → r ≠ 46 → r ≠ 58 → (r < 51 ∨ 57 < r) → d4 r = d r := fun r h1 h2 h3 h4 h5 h6 h7 => by
    rw [m r h5 h7, f3 r h4 h6, f2 r h1 h2 h3]
  have fs4 : ∀ r x, r < 24 → d4 r x = d2 r x := fun r x hr => by rw [m r (by omega) (by omega), f3 r (by omega) (by omega)]
  have q44 : ∀ k, k ≠ 0 → k ≠ 25 → d4 44 0 k = d 44 0 k := fun k h0 h25 => by
    rw [m 44 (by decide) (by decide), k44 k h25, u3x h0, f2 44 (by decide) (by decide) (by decide)]
  have hgh : GH d3 B R T := GH_keep (d2 := ev_u3 d2 44 0 0 0) he10 hc10 hk g4 hτ r1 r3 r4 r5 (fun r x hr h1 h2 => by rw [f3 r (by omega) (by omega), fs r x hr (by omega)])
    (by rw [f3 39 (by decide) (by decide)]; exact f 39 0 (.inl (by decide))) kp (by rw [u3n (by decide), f2 58 (by decide) (by decide) (by decide)]) (fun j _ => by rw [u3n (by decide), f2 46 (by decide) (by decide) (by decide)])
  refine ⟨⟨f4 103 (by decide) (by decide) (by decide) (by decide) (by decide) (by decide) (by decide), f4 104 (by decide) (by decide) (by decide) (by decide) (by decide) (by decide) (by decide)⟩, ?_⟩
  have e45 : d4 45 = d 45 := f4 45 (by decide) (by decide) (by decide) (by decide) (by decide) (by decide) (by decide)
  have ea : ∀ r, 24 ≤ r → r ≤ 26 → d4 r = d r := fun r h1 h2 => f4 r h1 (by omega) (by omega) (by omega) (by omega) (by omega) (by omega)
  refine ⟨B, R, T, by rw [e45]; exact g1, by rw [e45]; exact CL_d g2 (by rw [ea 24 (by decide) (by decide)]) (by rw [ea 25 (by decide) (by decide)]) (by rw [ea 26 (by decide) (by decide)]), by rw [ea 24 (by decide) (by decide)]; exact g3, ⟨C', τ', hτ', ?_⟩, ?_, ?_, ?_, ?_⟩
  · exact GS_w (GS_d s2 (fun r hr => fs4 r 1 hr)) m46
  · exact GT_d g5 (by rw [f4 29 (by decide) (by decide) (by decide) (by decide) (by decide) (by decide) (by decide)]) (q44 4 (by decide) (by decide)) (by rw [f4 30 (by decide) (by decide) (by decide) (by decide) (by decide) (by decide) (by decide)]) (by rw [f4 47 (by decide) (by decide) (by decide) (by decide) (by decide) (by decide) (by decide)])
  · rw [f4 27 (by decide) (by decide) (by decide) (by decide) (by decide) (by decide) (by decide), q44 11 (by decide) (by decide)]
    exact g6
  · exact GH_d hgh (fun r i hr h1 h2 => by rw [fs4 r i hr, f3 r (by omega) (by omega)]) (by rw [m 39 (by decide) (by decide)]) (by rw [m 44 (by decide) (by decide)]) (by rw [m 58 (by decide) (by decide)])
  · refine GN_d g8 (fun r i hr h1 h2 => by rw [fs4 r i hr, fs r i hr (by omega), r1 r hr i (by omega)]) ?_ ?_ ?_
    · rw [f4 43 (by decide) (by decide) (by decide) (by decide) (by decide) (by decide) (by decide)]
    · rw [f4 60 (by decide) (by decide) (by decide) (by decide) (by decide) (by decide) (by decide)]
    · rw [f4 59 (by decide) (by decide) (by decide) (by decide) (by decide) (by decide) (by decide)]
section EC31
variable {n : Nat} {lk : Nat → Nat → Nat → Bool} {d : Nat → Nat → Nat → Int32} {o : ev_W}
/-- the start of a call that changes: the program remembers -/
theorem ec_remG (hl : LK lk) (h : GI d) : ∃ B R T C τ c, (TC (d 45 0) B R ∧ CL d 1 (d 45 0) ∧ (d 24 1 4 = Int32.ofNat T ∧ T ≤ 20) ∧ GS d 1 (d 46 0) B R C T τ ∧ τ ≤ 2000 ∧ c ≤ 10 ∧ d 44 0 25 = Int32.ofNat c) ∧
    ∀ n o, ∃ d1, EV (15, 0, [ev_R 39 0, ev_R 0 1], [], 0, 0) (n, lk, d, o) = some (.inl none, (n, lk, d1, o)) ∧ GS d1 1 (d 46 0) B R C T τ ∧ TW d1 (d 45 0) T ∧ SC d d1 ∧ (d1 44 = d 44 ∧ d1 45 = d 45 ∧ d1 46 = d 46 ∧ d1 24 = d 24 ∧ ∀ r, r < 24 → d1 r 1 = d r 1) ∧
    ∀ d2 d3 d4 w' C' τ', FT d1 d2 1 → GS d2 1 w' B R C' T τ' → τ' ≤ 2000 → KP (ev_u3 d2 44 0 0 0) d3 c → (∀ r, r ≠ 46 → (r < 51 ∨ 57 < r) → d4 r = d3 r) → (∀ j, j < 615 → d4 46 0 j = w' j) → SC d d4 ∧ GI d4 ∧ SC d d2 ∧ d4 44 0 0 = 0 := by
  obtain ⟨B, R, T, g1, g2, g3, ⟨C, τ, hτ, g4⟩, g5, g6, ⟨e, c, he10, hc10, he, hc, hu, hk⟩, g8⟩ := id h
  have htr : d 0 1 1 = 0 ∨ d 0 1 1 = 1 := by
    obtain ⟨⟨K, hs⟩, hI⟩ := g4
    rw [cs_tr hs]
    exact hI.2.2.2.1.2.2.2.1
  refine ⟨B, R, T, C, τ, c, ⟨g1, g2, g3, g4, hτ, hc10, hu⟩, fun n o => ?_⟩
  obtain ⟨d1, e1, r1, r2, r3, r4, r5⟩ := ec_remember (n := n) (o := o) hl he he10 hc hc10 htr
  refine ⟨d1, e1, GS_d g4 (fun r hr => r1 r hr 1 (by omega)), ⟨CL_d g2 (by rw [r2 24 (by decide) (by decide)]) (by rw [r2 25 (by decide) (by decide)]) (by rw [r2 26 (by decide) (by decide)]), by rw [r2 24 (by decide) (by decide)]; exact g3.1⟩,
    ⟨r2 103 (by decide) (by decide), r2 104 (by decide) (by decide)⟩, ⟨r2 44 (by decide) (by decide), r2 45 (by decide) (by decide), r2 46 (by decide) (by decide), r2 24 (by decide) (by decide), fun r hr => r1 r hr 1 (by omega)⟩, fun d2 d3 d4 w' C' τ' f s2 hτ' kp m m46 => ?_⟩
  obtain ⟨a, b⟩ := GI_change g1 g2 g3 g4 hτ g5 g6 g8 he10 hc10 hk r1 r2 r3 r4 r5 f s2 hτ' kp m m46
  refine ⟨a, b, ⟨(funext fun j => f 103 j (.inl (by omega))).trans (r2 103 (by decide) (by decide)), (funext fun j => f 104 j (.inl (by omega))).trans (r2 104 (by decide) (by decide))⟩, ?_⟩
  rw [m 44 (by decide) (by decide), kp.2.1 0 (by decide), u3s]
end EC31
