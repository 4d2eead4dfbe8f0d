/-! THE PROGRAM AGAINST THE REFERENCE, 28: what holds between two calls -/
def GS (d : Nat → Nat → Nat → Int32) (i : Nat) (w : Nat → Int32) (B R C T τ : Nat) : Prop := (∃ K, CS d i w C K) ∧ SI w B R C T τ
def GT (d : Nat → Nat → Nat → Int32) : Prop := ∃ L, L ≤ 600 ∧ d 29 0 1 = Int32.ofNat L ∧ d 44 0 4 = Int32.ofNat L ∧ ∀ k, k < L → d 30 0 k = d 47 0 k ∧ ms_rg (d 47 0 k) (-128) 127
def GH (d : Nat → Nat → Nat → Int32) (B R T : Nat) : Prop := ∃ e c, e < 10 ∧ c ≤ 10 ∧ d 39 0 1 = Int32.ofNat e ∧ d 39 0 2 = Int32.ofNat c ∧ d 44 0 25 = Int32.ofNat c ∧ ∀ k, k < c → ∃ C τ, τ ≤ 2000 ∧ GS d (3 + (e + 10 - c + k) % 10) (fun j => d 58 0 (615 * k + j)) B R C T τ
def GN (d : Nat → Nat → Nat → Int32) (B R T : Nat) : Prop := ∀ s, s < 2 → d 43 0 s = d 60 0 s ∧ (d 43 0 s = 0 ∨ d 43 0 s = 1 ∧ ∃ C τ, τ ≤ 2000 ∧ GS d (13 + s) (fun j => d 59 0 (615 * s + j)) B R C T τ)
def GI (d : Nat → Nat → Nat → Int32) : Prop := ∃ B R T, TC (d 45 0) B R ∧ CL d 1 (d 45 0) ∧ (d 24 1 4 = Int32.ofNat T ∧ T ≤ 20) ∧ (∃ C τ, τ ≤ 2000 ∧ GS d 1 (d 46 0) B R C T τ) ∧ GT d ∧ d 27 0 8 = d 44 0 11 ∧ GH d B R T ∧ GN d B R T
/-- what a call that only looks leaves as it was -/
def GF (d d' : Nat → Nat → Nat → Int32) : Prop := (∀ r i, r < 24 → i ≠ 0 → i ≠ 2 → d' r i = d r i) ∧ (∀ r, 24 ≤ r → r ≤ 26 → d' r 1 = d r 1) ∧ (d' 27 0 8 = d 27 0 8 ∧ d' 29 0 1 = d 29 0 1 ∧ d' 30 0 = d 30 0 ∧ d' 39 0 = d 39 0 ∧ d' 43 0 = d 43 0) ∧
  (∀ k, k ≠ 0 → d' 44 0 k = d 44 0 k) ∧ (d' 45 0 = d 45 0 ∧ (∀ j, j < 615 → d' 46 0 j = d 46 0 j) ∧ d' 47 0 = d 47 0 ∧ d' 58 0 = d 58 0 ∧ d' 59 0 = d 59 0 ∧ d' 60 0 = d 60 0) ∧ d' 103 = d 103 ∧ d' 104 = d 104
theorem GF_r (d : Nat → Nat → Nat → Int32) : GF d d := ⟨fun _ _ _ _ _ => rfl, fun _ _ _ => rfl, ⟨rfl, rfl, rfl, rfl, rfl⟩, fun _ _ => rfl, ⟨rfl, fun _ _ => rfl, rfl, rfl, rfl, rfl⟩, rfl, rfl⟩
theorem GF_t {d d' d'' : Nat → Nat → Nat → Int32} (h : GF d d') (h' : GF d' d'') : GF d d'' := by
  obtain ⟨a1, a2, ⟨a3, a4, a5, a6, a7⟩, a8, ⟨a9, a10, a11, a12, a13, a14⟩, a15, a16⟩ := h
  obtain ⟨b1, b2, ⟨b3, b4, b5, b6, b7⟩, b8, ⟨b9, b10, b11, b12, b13, b14⟩, b15, b16⟩ := h'
  exact ⟨fun r i x y z => (b1 r i x y z).trans (a1 r i x y z), fun r x y => (b2 r x y).trans (a2 r x y), ⟨b3.trans a3, b4.trans a4, b5.trans a5, b6.trans a6, b7.trans a7⟩, fun k x => (b8 k x).trans (a8 k x), ⟨b9.trans a9, fun j x => (b10 j x).trans (a10 j x), b11.trans a11, b12.trans a12, b13.trans a13, b14.trans a14⟩, b15.trans a15, b16.trans a16⟩
theorem GF_FT {d d' : Nat → Nat → Nat → Int32} (h : FT d d' 2) : GF d d' := by
  have k : ∀ r, 24 ≤ r → (r < 33 ∨ 38 < r) → d' r = d r := fun r h1 h2 => funext fun j => h r j (.inl ⟨h1, h2⟩)
  refine ⟨fun r i x y z => h r i (.inr ⟨x, z⟩), fun r x y => by rw [k r x (by omega)], ⟨?_, ?_, ?_, ?_, ?_⟩, fun x _ => ?_, ⟨?_, fun j _ => ?_, ?_, ?_, ?_, ?_⟩, k 103 (by decide) (by decide), k 104 (by decide) (by decide)⟩
  · rw [k 27 (by decide) (by decide)]
  · rw [k 29 (by decide) (by decide)]
  · rw [k 30 (by decide) (by decide)]
  · rw [k 39 (by decide) (by decide)]
  · rw [k 43 (by decide) (by decide)]
  · rw [k 44 (by decide) (by decide)]
  · rw [k 45 (by decide) (by decide)]
  · rw [k 46 (by decide) (by decide)]
  · rw [k 47 (by decide) (by decide)]
  · rw [k 58 (by decide) (by decide)]
  · rw [k 59 (by decide) (by decide)]
  · rw [k 60 (by decide) (by decide)]
theorem GF_thrown {d : Nat → Nat → Nat → Int32} {v : Int32} : GF d (ev_u3 d 44 0 0 v) := by
  refine ⟨fun r i x y z => by rw [u3n (by omega)], fun r x y => by rw [u3n (by omega)], ⟨?_, ?_, ?_, ?_, ?_⟩, fun x hx => u3x hx, ⟨?_, fun j _ => ?_, ?_, ?_, ?_, ?_⟩, u3n (by decide), u3n (by decide)⟩ <;> rw [u3n (by decide)]
theorem CS_w {d : Nat → Nat → Nat → Int32} {i C K : Nat} {w w' : Nat → Int32} (hs : CS d i w C K) (h : ∀ j, j < 615 → w' j = w j) : CS d i w' C K := by
  have h40 := cs_C hs
  obtain ⟨s1, s2, s3, s4, s5, s6, s7, s8, s9, s10, s11, ⟨w9, w10, hKm, -⟩, hi1, hi2⟩ := hs
  refine ⟨fun k hk => ?_, ?_, ?_, ?_, ?_, ?_, ?_, fun k hk => ?_, fun b hb => ?_, fun x hx => ?_, fun q hq => ?_, ⟨?_, ?_, ?_, h40⟩, fun q hq hne => ?_, fun p hp => ?_⟩
  · rw [h k (by omega), s1 k hk]
  · rw [h 7 (by omega), s2]
  · rw [h 8 (by omega), s3]
  · rw [h 17 (by omega), s4]
  · rw [h 18 (by omega), s5]
  · rw [h 9 (by omega), s6]
  · rw [h 10 (by omega), s7]
  · rw [h (11 + k) (by omega), s8 k hk]
  · rw [h (19 + 9 * b + 0) (by omega), h (19 + 9 * b + 1) (by omega), h (19 + 9 * b + 3) (by omega), h (19 + 9 * b + 4) (by omega), h (19 + 9 * b + 5) (by omega), h (19 + 9 * b + 6) (by omega), h (19 + 9 * b + 7) (by omega)]
    exact s9 b hb
  · rw [h (55 + 5 * x + 0) (by omega), h (55 + 5 * x + 1) (by omega), h (55 + 5 * x + 2) (by omega), h (55 + 5 * x + 3) (by omega), h (55 + 5 * x + 4) (by omega)]
    exact s10 x hx
  · rw [h (375 + 6 * q + 0) (by omega), h (375 + 6 * q + 1) (by omega), h (375 + 6 * q + 2) (by omega), h (375 + 6 * q + 3) (by omega), h (375 + 6 * q + 4) (by omega)]
    exact s11 q hq
  · rw [h 9 (by omega), w9]
  · rw [h 10 (by omega), w10]
  · rw [ms_cm_c (w' := w) (fun q hq => by rw [h (375 + 6 * q + 3) (by omega)]), hKm]
  · rw [h (375 + 6 * q + 3) (by omega)] at hne
    rw [h (375 + 6 * q + 5) (by omega)]
    exact hi1 q hq hne
  · obtain ⟨q, hq, y0, y1, y2⟩ := hi2 p hp
    exact ⟨q, hq, by rw [h (375 + 6 * q + 3) (by omega)]; exact y0, by rw [h (375 + 6 * q + 5) (by omega)]; exact y1, y2⟩
theorem SI_w {w w' : Nat → Int32} {B R C T τ : Nat} (hs : SI w B R C T τ) (h : ∀ j, j < 615 → w' j = w j) : SI w' B R C T τ := by
  obtain ⟨⟨c1, c2, c3⟩, c4, ⟨c5, c5'⟩, ⟨c6, c7, c8, c9⟩, c10, c11, c12, c13⟩ := hs
  refine ⟨⟨c1, c2, fun q h1 h2 => ?_⟩, fun q hq => ?_, ⟨?_, c5'⟩, ⟨?_, ?_, ?_, ?_⟩, fun b hb => ?_, fun c hc => ?_, fun b hb => ?_, ?_⟩
  · rw [h _ (by omega)]; exact c3 q h1 h2
  · rw [h _ (by omega), h _ (by omega)]; exact c4 q hq
  · rw [h _ (by omega)]; exact c5
  · rw [h _ (by omega)]; exact c6
  · rw [h _ (by omega)]; exact c7
  · rw [h _ (by omega)]; exact c8
  · exact ⟨by rw [h _ (by omega)]; exact c9.1, by rw [h _ (by omega)]; exact c9.2⟩
  · rw [h _ (by omega)]; exact c10 b hb
  · rw [h _ (by omega)]; exact c11 c hc
  · rw [h _ (by omega), c12 b hb, ms_many_c (w' := w') (w := w) (fun q hq => by rw [h _ (by omega), h _ (by omega)])]
  · rw [h _ (by omega)]; exact c13
theorem GS_w {d : Nat → Nat → Nat → Int32} {i B R C T τ : Nat} {w w' : Nat → Int32} (hs : GS d i w B R C T τ) (h : ∀ j, j < 615 → w' j = w j) : GS d i w' B R C T τ := by
  obtain ⟨⟨K, h1⟩, h2⟩ := hs
  exact ⟨⟨K, CS_w h1 h⟩, SI_w h2 h⟩
theorem GS_d {d d' : Nat → Nat → Nat → Int32} {i B R C T τ : Nat} {w : Nat → Int32} (hs : GS d i w B R C T τ) (h : ∀ r, r < 24 → d' r i = d r i) : GS d' i w B R C T τ := by
  obtain ⟨⟨K, h1⟩, h2⟩ := hs
  exact ⟨⟨K, CS_d h1 h⟩, h2⟩
theorem GS_cp {d d' : Nat → Nat → Nat → Int32} {i j B R C T τ : Nat} {w : Nat → Int32} (h : CPS d d' i j 0 23) (hs : GS d j w B R C T τ) : GS d' i w B R C T τ := by
  obtain ⟨⟨K, h1⟩, h2⟩ := hs
  exact ⟨⟨K, CS_cp h h1⟩, h2⟩
theorem GH_d {d d' : Nat → Nat → Nat → Int32} {B R T : Nat} (h : GH d B R T) (h1 : ∀ r i, r < 24 → 3 ≤ i → i < 13 → d' r i = d r i) (h2 : d' 39 0 = d 39 0) (h3 : d' 44 0 25 = d 44 0 25) (h4 : d' 58 0 = d 58 0) : GH d' B R T := by
  obtain ⟨e, c, a1, a2, a3, a4, a5, a6⟩ := h
  refine ⟨e, c, a1, a2, by rw [h2, a3], by rw [h2, a4], by rw [h3, a5], fun k hk => ?_⟩
  obtain ⟨C, τ, hτ, g⟩ := a6 k hk
  rw [h4]
  exact ⟨C, τ, hτ, GS_d g (fun r hr => h1 r _ hr (by omega) (by omega))⟩
theorem GN_d {d d' : Nat → Nat → Nat → Int32} {B R T : Nat} (h : GN d B R T) (h1 : ∀ r i, r < 24 → 13 ≤ i → i < 15 → d' r i = d r i) (h2 : d' 43 0 = d 43 0) (h3 : d' 60 0 = d 60 0) (h4 : d' 59 0 = d 59 0) : GN d' B R T := by
  intro s hs
  obtain ⟨a1, a2⟩ := h s hs
  rw [h2, h3, h4]
  refine ⟨a1, a2.imp id (fun x => ?_)⟩
  obtain ⟨x1, C, τ, hτ, g⟩ := x
  exact ⟨x1, C, τ, hτ, GS_d g (fun r hr => h1 r _ hr (by omega) (by omega))⟩
theorem GT_d {d d' : Nat → Nat → Nat → Int32} (h : GT d) (h1 : d' 29 0 1 = d 29 0 1) (h2 : d' 44 0 4 = d 44 0 4) (h3 : d' 30 0 = d 30 0) (h4 : d' 47 0 = d 47 0) : GT d' := by
  obtain ⟨L, a1, a2, a3, a4⟩ := h
  exact ⟨L, a1, by rw [h1, a2], by rw [h2, a3], fun k hk => by rw [h3, h4]; exact a4 k hk⟩
theorem GI_GF {d d' : Nat → Nat → Nat → Int32} (h : GI d) (hf : GF d d') : GI d' := by
  obtain ⟨B, R, T, g1, g2, ⟨g3, g3'⟩, ⟨C, τ, hτ, g4⟩, g5, g6, g7, g8⟩ := h
  obtain ⟨a1, a2, ⟨a3, a4, a5, a6, a7⟩, a8, ⟨a9, a10, a11, a12, a13, a14⟩, a15, a16⟩ := hf
  refine ⟨B, R, T, by rw [a9]; exact g1, ?_, ⟨by rw [a2 24 (by decide) (by decide), g3], g3'⟩, ⟨C, τ, hτ, ?_⟩, GT_d g5 a4 (a8 4 (by decide)) a5 a11, by rw [a3, a8 11 (by decide), g6], GH_d g7 (fun r i x y z => a1 r i x (by omega) (by omega)) a6 (a8 25 (by decide)) a12, GN_d g8 (fun r i x y z => a1 r i x (by omega) (by omega)) a7 a14 a13⟩
  · rw [a9]
    exact CL_d g2 (a2 24 (by decide) (by decide)) (a2 25 (by decide) (by decide)) (a2 26 (by decide) (by decide))
  · exact GS_w (GS_d g4 (fun r hr => a1 r 1 hr (by decide) (by decide))) (fun j hj => a10 j hj)
/-- the measures of the memory that the reference goes by -/
theorem GS_OK {d : Nat → Nat → Nat → Int32} {B R C T τ S : Nat} (hT : TC (d 45 0) B R) (h : GS d 1 (d 46 0) B R C T τ) (hS : d 46 0 0 = Int32.ofNat S) (hS4 : S ≤ 4) : ms_OK d B R C S := by
  obtain ⟨⟨K, hs⟩, hI⟩ := h
  obtain ⟨⟨t0, t1, b1, b4, r1, r16⟩, -, ⟨t3, -⟩, -⟩ := hT
  refine ⟨⟨t0, t1, fun z => ?_, cs_w9 hs, hS, b1, b4, r1, r16, cs_C hs, hS4⟩, fun q hq => ?_⟩
  · rw [z, show (0 : Int32).toInt = 0 from by decide] at t3
    omega
  · obtain ⟨-, r, hr, e⟩ := hI.2.1 q hq
    exact ⟨r, by omega, e⟩
