/-! THE PROGRAM AGAINST THE REFERENCE, 37: what would be -/
theorem GF_M {d d' : Nat → Nat → Nat → Int32} (h : ∀ r, r ≠ 46 → (r < 51 ∨ 57 < r) → d' r = d r) (h46 : ∀ j, j < 615 → d' 46 0 j = d 46 0 j) : GF d d' := by
  refine ⟨fun r i x y z => by rw [h r (by omega) (by omega)], fun r x y => by rw [h r (by omega) (by omega)], ⟨?_, ?_, ?_, ?_, ?_⟩, fun x _ => ?_, ⟨?_, h46, ?_, ?_, ?_, ?_⟩, h 103 (by decide) (by decide), h 104 (by decide) (by decide)⟩
  · rw [h 27 (by decide) (by decide)]
  · rw [h 29 (by decide) (by decide)]
  · rw [h 30 (by decide) (by decide)]
  · rw [h 39 (by decide) (by decide)]
  · rw [h 43 (by decide) (by decide)]
  · rw [h 44 (by decide) (by decide)]
  · rw [h 45 (by decide) (by decide)]
  · rw [h 47 (by decide) (by decide)]
  · rw [h 58 (by decide) (by decide)]
  · rw [h 59 (by decide) (by decide)]
  · rw [h 60 (by decide) (by decide)]
/-- set aside -/
def mm_try (d : Nat → Nat → Nat → Int32) : Nat → Nat → Nat → Int32 := ev_w3 d 57 0 (fun j => if j < 615 then d 46 0 j else d 57 0 j)
/-- put back -/
def mm_back (d : Nat → Nat → Nat → Int32) : Nat → Nat → Nat → Int32 := ev_w3 d 46 0 (fun j => if j < 615 then d 57 0 j else d 46 0 j)
theorem mm_try_n {d : Nat → Nat → Nat → Int32} {r : Nat} (h : r ≠ 57) : mm_try d r = d r := w3n h
theorem mm_back_n {d : Nat → Nat → Nat → Int32} {r : Nat} (h : r ≠ 46) : mm_back d r = d r := w3n h
/-- the memory of a trial: all but the reference's own working numbers is as it was, and its numbers lie aside -/
def MT (d d' : Nat → Nat → Nat → Int32) : Prop := (∀ r, r ≠ 46 → (r < 51 ∨ 57 < r) → d' r = d r) ∧ ∀ j, j < 615 → d' 57 0 j = d 46 0 j
theorem MT_try {d : Nat → Nat → Nat → Int32} : MT d (mm_try d) := ⟨fun r h1 h2 => mm_try_n (by omega), fun j hj => by
  unfold mm_try
  rw [w3s, if_pos hj]⟩
theorem MT_same {d d' d'' : Nat → Nat → Nat → Int32} (h : MT d d') (hs : ms_same d' d'') : MT d d'' := ⟨fun r h1 h2 => (hs r h1 (by omega) (by omega) (by omega) (by omega) (by omega) (by omega)).trans (h.1 r h1 h2), fun j hj => by
  rw [hs 57 (by decide) (by decide) (by decide) (by decide) (by decide) (by decide) (by decide)]
  exact h.2 j hj⟩
theorem MT_back {d d' : Nat → Nat → Nat → Int32} (h : MT d d') : MT d (mm_back d') := ⟨fun r h1 h2 => (mm_back_n h1).trans (h.1 r h1 h2), fun j hj => by
  rw [mm_back_n (by decide)]
  exact h.2 j hj⟩
theorem MT_46 {d d' : Nat → Nat → Nat → Int32} {k : Nat} {v : Int32} (h : MT d d') : MT d (ev_u3 d' 46 0 k v) := ⟨fun r h1 h2 => (u3n h1).trans (h.1 r h1 h2), fun j hj => by
  rw [u3n (by decide)]
  exact h.2 j hj⟩
theorem MT_b46 {d d' : Nat → Nat → Nat → Int32} (h : MT d d') : ∀ j, j < 615 → mm_back d' 46 0 j = d 46 0 j := fun j hj => by
  unfold mm_back
  rw [w3s, if_pos hj]
  exact h.2 j hj
theorem MT_GF {d d' : Nat → Nat → Nat → Int32} (h : MT d d') : GF d (mm_back d') := GF_M (fun r h1 h2 => (mm_back_n h1).trans (h.1 r h1 h2)) (MT_b46 h)
theorem OPH_okt {a b : ev_F} {kf : Nat → Int32} {lk : Nat → Nat → Nat → Bool} {d : Nat → Nat → Nat → Int32} (h : GI d)
    (h1 : ∀ n o, 384 ≤ n → ∃ v d1 d2, GF d d1 ∧ GF d1 d2 ∧ d2 44 0 0 = 0 ∧ EV a (n, lk, d, o) = some (.inl (some (ev_I v)), (n, lk, d1, o)) ∧ EV b (n, lk, d1, o) = some (.inl (some (ev_I v)), (n, lk, d2, o))) : OPH a b kf lk d := fun n o hn => by
  obtain ⟨v, d1, d2, f1, f2, ht, e1, e2⟩ := h1 n o hn
  exact .inl ⟨v, d1, d2, SC_GF f1, SC_GF (GF_t f1 f2), GI_GF h (GF_t f1 f2), ht, e1, e2⟩
theorem OPN_okt {a b : ev_F} {lk : Nat → Nat → Nat → Bool} {d : Nat → Nat → Nat → Int32} (h : GI d)
    (h1 : ∀ n o, 384 ≤ n → ∃ v d1 d2, GF d d1 ∧ GF d1 d2 ∧ EV a (n, lk, d, o) = some (.inl (some (ev_I v)), (n, lk, d1, o)) ∧ EV b (n, lk, d1, o) = some (.inl (some (ev_I v)), (n, lk, d2, o))) : OPN a b lk d := fun n o hn => by
  obtain ⟨v, d1, d2, f1, f2, e1, e2⟩ := h1 n o hn
  exact ⟨v, d1, d2, SC_GF f1, SC_GF (GF_t f1 f2), GI_GF h (GF_t f1 f2), e1, e2⟩
/-- what the trials start from -/
theorem GI_trial {d : Nat → Nat → Nat → Int32} (h : GI d) : ∃ B R T C τ S, TC (d 45 0) B R ∧ TW d (d 45 0) T ∧ GS d 1 (d 46 0) B R C T τ ∧ τ ≤ 2000 ∧ d 46 0 0 = Int32.ofNat S ∧ S ≤ 4 ∧ (d 0 1 1 = 0 ∨ d 0 1 1 = 1) := by
  obtain ⟨B, R, T, g1, g2, g3, ⟨C, τ, hτ, g4⟩, -⟩ := h
  obtain ⟨S, hS4, hS⟩ := g4.2.2.2.2.1.1
  refine ⟨B, R, T, C, τ, S, g1, ⟨g2, g3.1⟩, g4, hτ, hS, hS4, ?_⟩
  obtain ⟨⟨K, hs⟩, hI⟩ := g4
  rw [cs_tr hs]
  exact hI.2.2.2.1.2.2.2.1
theorem ms_OK_c {d d' : Nat → Nat → Nat → Int32} {B R C S : Nat} (h : ms_OK d B R C S) (h1 : d' 45 0 = d 45 0) (h2 : d' 46 0 = d 46 0) : ms_OK d' B R C S := by
  unfold ms_OK ms_D
  rw [h1, h2]
  exact h
section EC26
variable {n : Nat} {lk : Nat → Nat → Nat → Bool} {d : Nat → Nat → Nat → Int32} {o : ev_W}
theorem em_try (hl : LK lk) : EV (183, 0, [ev_R 44 0], [], 0, 0) (n, lk, d, o) = some (.inl none, (n, lk, mm_try d, o)) := em_tries hl
theorem em_back (hl : LK lk) : EV (184, 0, [ev_R 44 0], [], 0, 0) (n, lk, d, o) = some (.inl none, (n, lk, mm_back d, o)) := em_comesBack hl
/-- the program's trial copy -/
theorem ec_trial (hl : LK lk) {w : Nat → Int32} {B R C T τ : Nat} (h : GS d 1 w B R C T τ) (h1 : d 0 1 1 = 0 ∨ d 0 1 1 = 1) :
    ∃ d', EV (63, 0, [ev_R 0 2, ev_R 0 1], [], 0, 0) (n, lk, d, o) = some (.inl none, (n, lk, d', o)) ∧ FT d d' 2 ∧ GS d' 2 w B R C T τ := by
  obtain ⟨d', e1, e2⟩ := ec_cpState (n := n) (o := o) hl (i := 2) (j := 1) (by decide) (by decide) h1
  exact ⟨d', e1, FT_CPS e2, GS_cp e2 h⟩
theorem FT2_1 {d d' : Nat → Nat → Nat → Int32} (h : FT d d' 2) : (∀ r, r < 24 → d' r 1 = d r 1) ∧ d' 44 = d 44 ∧ d' 45 = d 45 ∧ d' 46 = d 46 :=
  ⟨fun r hr => h r 1 (.inr ⟨hr, by decide⟩), funext fun j => h 44 j (.inl (by omega)), funext fun j => h 45 j (.inl (by omega)), funext fun j => h 46 j (.inl (by omega))⟩
theorem op_lossesAhead (hl : LK lk) (h : GI d) {x : Int32} : OPH (99, 0, [ev_R 27 0, ev_I x], [], 0, 0) (205, 0, [ev_R 44 0, ev_I x], [], 0, 0) kf_A lk d := by
  obtain ⟨B, R, T, C, τ, S, g1, g2, g3, hτ, hS, hS4, htr⟩ := GI_trial h
  by_cases z : 1 ≤ x ∧ x ≤ 300
  · obtain ⟨k, hk, ex⟩ := ni_of2 300 (by omega) (Int32.le_trans (by decide) z.1) z.2
    subst ex
    refine OPH_okt h (fun n o hn => ?_)
    obtain ⟨d1, e1, f1, s1⟩ := ec_trial (n := n) (o := o) hl g3 htr
    obtain ⟨d2, e2, f2, -⟩ := ec_run (n := n) (o := o) hl (i := 2) (by decide) (k := k) s1 (TW_FT g2 f1) g1 hS hS4 (by omega)
    have f := FT_t f1 f2
    obtain ⟨q1, q44, q45, q46⟩ := FT2_1 f
    have ok := GS_OK g1 g3 hS hS4
    obtain ⟨d3, e3, m3, sm3, -⟩ := em_lossesIn (n := n) (o := o) hl (d := mm_try (ev_u3 d2 44 0 0 0)) (k := k) (ms_OK_c ok (by rw [mm_try_n (by decide), u3n (by decide), q45]) (by rw [mm_try_n (by decide), u3n (by decide), q46])) (by omega)
    have t45 : mm_try (ev_u3 d2 44 0 0 0) 45 = d 45 := by rw [mm_try_n (by decide), u3n (by decide), q45]
    have t46 : mm_try (ev_u3 d2 44 0 0 0) 46 = d 46 := by rw [mm_try_n (by decide), u3n (by decide), q46]
    rw [t45, t46] at m3
    rw [m3, t46] at e3
    have mt := MT_same MT_try sm3
    refine ⟨ms_ticks (d 45 0) (d 46 0) C R B S k 14 - d 46 0 14, d2, mm_back d3, GF_FT f, GF_t GF_thrown (MT_GF mt), ?_, ?_, ?_⟩
    · rw [mm_back_n (by decide), mt.1 44 (by decide) (by decide), u3s]
    · refine EV_bk (k := 400) ?_
      rw [bk_99_0, ec_reqTicks hn, if_pos z]
      simp only [ev_bv, hl 27 0 4 rfl (by decide) (by decide), hl 27 0 5 rfl (by decide) (by decide), cond_true]
      rw [e1]
      simp only [hl 27 0 2 rfl (by decide) (by decide), hl 27 0 5 rfl (by decide) (by decide), cond_true]
      rw [e2]
      rfl
    · refine EV_bk (k := 400) ?_
      rw [bk_205_0, em_noTicks u3s, if_pos z]
      simp only [ev_bi, ↓reduceIte]
      rw [em_try hl]
      simp only [ev_bv]
      rw [e3]
      simp only []
      rw [em_back hl]
  · refine OPH_no (E := 0) (v := 0) h (GF_thrown (v := 1)) (by decide) (by decide) u3s (fun n o hn => ?_) (fun n o => ?_)
    · refine EV_bk (k := 400) ?_
      rw [bk_99_0, ec_reqTicks hn, if_neg z]
      rfl
    · refine EV_bk (k := 400) ?_
      rw [bk_205_0, em_noTicks u3s, if_neg z, u3u]
      simp (decide := true) only [ev_bi, ↓reduceIte]
/-- the reference looks for the first loss -/
theorem em_lossLoop (hl : LK lk) {d0 : Nat → Nat → Nat → Int32} {B R C S T : Nat} : ∀ j p τ (d : Nat → Nat → Nat → Int32), p + j = 300 → ms_OK d B R C S → MT d0 d → TC (d 45 0) B R → SI (d 46 0) B R C T τ → τ + j ≤ 3000 →
    ∃ d', EV (203, 13, [ev_R 44 0, ev_I (-1), ev_I (Int32.ofNat p)], [], 0, 0) (n, lk, d, o) = some (.inl (some (ev_I (ms_tl (d 45 0) C R B S j (d 46 0)))), (n, lk, mm_back d', o)) ∧ MT d0 d' := by
  intro j
  induction j with
  | zero =>
    intro p τ d hp ok mt _ _ _
    refine ⟨d, ?_, mt⟩
    refine EV_bk (k := 400) ?_
    rw [bk_203_13, if_neg (fun z => by have := (ni_lt (b := 300) (by omega) (by omega)).mp z; omega), em_back hl]
    rfl
  | succ j ih =>
    intro p τ d hp ok mt hT hI hτ
    have hlt : Int32.ofNat p < 300 := (ni_lt (b := 300) (by omega) (by omega)).mpr (by omega)
    obtain ⟨d1, e1, m1, sm1, ok1⟩ := em_lossesIn (n := n) (o := o) hl (k := 1) ok (by omega)
    have e1' : EV (185, 0, [ev_R 44 0, ev_I 1], [], 0, 0) (n, lk, d, o) = _ := e1
    have t45 : d1 45 = d 45 := sm1 45 (by decide) (by decide) (by decide) (by decide) (by decide) (by decide) (by decide)
    have hst : ms_tl (d 45 0) C R B S (j + 1) (d 46 0) = if ms_tick (d 45 0) (d 46 0) C R B S 14 - d 46 0 14 ≤ 0 then ms_tl (d 45 0) C R B S j (ms_tick (d 45 0) (d 46 0) C R B S) else d 46 0 8 := rfl
    have m1' : d1 46 0 = ms_tick (d 45 0) (d 46 0) C R B S := m1
    rw [m1'] at e1'
    by_cases z : ms_tick (d 45 0) (d 46 0) C R B S 14 - d 46 0 14 ≤ 0
    · rw [if_pos z] at hst
      obtain ⟨d', e2, mt2⟩ := ih (p + 1) (τ + 1) d1 (by omega) ok1 (MT_same mt sm1) (by rw [t45]; exact hT) (by rw [m1']; exact SI_tick hT hI (by omega)) (by omega)
      refine ⟨d', ?_, mt2⟩
      refine EV_bk (k := 400) ?_
      rw [bk_203_13, if_pos hlt, if_pos rfl, hl 44 0 2 rfl (by decide) (by decide), cond_true, e1']
      simp only [ev_bi, ni_1]
      rw [if_pos z, e2, hst, m1', t45]
    · rw [if_neg z] at hst
      refine ⟨d1, ?_, MT_same mt sm1⟩
      have t8 : ¬ d 46 0 8 = -1 := by
        rw [hI.2.2.1.1]
        intro v
        have h0 : (0 : Int32) ≤ Int32.ofNat τ := ni_lo (by omega)
        rw [v] at h0
        exact absurd h0 (by decide)
      refine EV_bk (k := 400) ?_
      rw [bk_203_13, if_pos hlt, if_pos rfl, hl 44 0 2 rfl (by decide) (by decide), cond_true, e1']
      simp only [ev_bi, ni_1]
      rw [if_neg z, hst]
      refine EV_bk (k := 400) ?_
      rw [bk_203_13, em_back hl]
      simp only [ev_bv]
      by_cases y : Int32.ofNat (p + 1) < 300
      · rw [if_pos y, if_neg t8]
      · rw [if_neg y]
theorem op_nextLoss (hl : LK lk) (h : GI d) : OPN (98, 0, [ev_R 27 0], [], 0, 0) (203, 0, [ev_R 44 0], [], 0, 0) lk d := by
  obtain ⟨B, R, T, C, τ, S, g1, g2, g3, hτ, hS, hS4, htr⟩ := GI_trial h
  refine OPN_okt h (fun n o hn => ?_)
  obtain ⟨d1, e1, f1, s1⟩ := ec_trial (n := n) (o := o) hl g3 htr
  obtain ⟨d2, e2, f2⟩ := ec_lossTime (n := n) (o := o) hl (k := 300) s1 (TW_FT g2 f1) g1 hS hS4 (by omega)
  have f := FT_t f1 f2
  obtain ⟨q1, q44, q45, q46⟩ := FT2_1 f
  have ok := GS_OK g1 g3 hS hS4
  have t45 : mm_try (ev_u3 d2 44 0 0 0) 45 = d 45 := by rw [mm_try_n (by decide), u3n (by decide), q45]
  have t46 : mm_try (ev_u3 d2 44 0 0 0) 46 = d 46 := by rw [mm_try_n (by decide), u3n (by decide), q46]
  obtain ⟨d3, e3, mt⟩ := em_lossLoop (n := n) (o := o) hl (d0 := ev_u3 d2 44 0 0 0) (T := T) 300 0 τ (mm_try (ev_u3 d2 44 0 0 0)) (by omega) (ms_OK_c ok (by rw [t45]) (by rw [t46])) MT_try (by rw [t45]; exact g1) (by rw [t46]; exact g3.2) (by omega)
  rw [t45, t46] at e3
  refine ⟨ms_tl (d 45 0) C R B S 300 (d 46 0), d2, mm_back d3, GF_FT f, GF_t GF_thrown (MT_GF mt), ?_, ?_⟩
  · refine EV_bk (k := 400) ?_
    rw [bk_98_0, hl 27 0 5 rfl (by decide) (by decide), cond_true, hl 27 0 4 rfl (by decide) (by decide), cond_true, e1]
    have e2' : EV (122, 0, [ev_R 27 0, ev_I 300], [], 0, 0) (n, lk, d1, o) = _ := e2
    simp only [ev_bv]
    rw [e2']
    rfl
  · refine EV_bk (k := 400) ?_
    rw [bk_203_0, em_try hl]
    simp only [ev_bv]
    exact e3
end EC26
