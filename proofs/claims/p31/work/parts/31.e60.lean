/-! THE PROGRAM AGAINST THE REFERENCE, 46: undo and snapshots -/
def OPHB (a b : ev_F) (kf : Nat → Int32) (lk : Nat → Nat → Nat → Bool) (d : Nat → Nat → Nat → Int32) : Prop := ∀ n o, 384 ≤ n →
  (∃ v d1 d2, (v = 0 ∨ v = 1) ∧ SC d d1 ∧ SC d d2 ∧ GI d2 ∧ d2 44 0 0 = 0 ∧ EV a (n, lk, d, o) = some (.inl (some (ev_I v)), (n, lk, d1, o)) ∧ EV b (n, lk, d1, o) = some (.inl (some (ev_I v)), (n, lk, d2, o))) ∨
  ∃ E v d2, SC d d2 ∧ GI d2 ∧ d2 44 0 0 = kf E ∧ E < 3 ∧ kf E ≠ 0 ∧ EV a (n, lk, d, o) = some (.inr E, (n + 1000, lk, d, o)) ∧ EV b (n + 1000, lk, d, o) = some (.inl (some (ev_I v)), (n + 1000, lk, d2, o))
theorem GS_tr {d : Nat → Nat → Nat → Int32} {i B R C T τ : Nat} {w : Nat → Int32} (h : GS d i w B R C T τ) : d 0 i 1 = 0 ∨ d 0 i 1 = 1 := by
  obtain ⟨⟨K, hs⟩, hI⟩ := h
  rw [cs_tr hs]
  exact hI.2.2.2.1.2.2.2.1
section EC35
variable {n : Nat} {lk : Nat → Nat → Nat → Bool} {d : Nat → Nat → Nat → Int32} {o : ev_W}
theorem op_undo (hl : LK lk) (h : GI d) : OPN (112, 0, [ev_R 27 0], [], 0, 0) (220, 0, [ev_R 44 0], [], 0, 0) lk d := by
  obtain ⟨B, R, T, g1, g2, g3, g4, g5, g6, ⟨e, c, he10, hc10, he, hc, hu, hk⟩, g8⟩ := id h
  by_cases z : c = 0
  · subst z
    refine OPN_ok (v := -1) h (GF_r d) (GF_thrown (v := 0)) (fun n o hn => ?_) (fun n o => ?_)
    · have r16 : EV (16, 0, [ev_R 39 0, ev_R 0 1], [], 0, 0) (n, lk, d, o) = some (.inl (some (ev_I 0)), (n, lk, d, o)) := by
        refine EV_bk (k := 400) ?_
        rw [bk_16_0, hl 39 0 0 rfl (by decide) (by decide), cond_true, show ev_in 9 10 = true from rfl, show lk 40 0 9 = true from hl 40 0 9 rfl (by decide) (by decide), cond_true, cond_true, hc, if_pos (show Int32.ofNat 0 ≤ 0 from Int32.le_refl _)]
        split
        · rfl
        · rename_i ze
          rw [he] at ze ⊢
          have e1 : 1 ≤ e := Nat.pos_of_ne_zero (fun v => ze (by rw [v]; exact Int32.le_refl _))
          have em : Int32.ofNat e - 1 = Int32.ofNat (e - 1) := by
            have := ni_1 (e - 1)
            rw [show e - 1 + 1 = e by omega] at this
            rw [← this, Int32.sub_eq_add_neg, Int32.add_assoc, show (1 : Int32) + -1 = 0 from by decide, Int32.add_zero]
          rw [em]
          simp only [ni_in (n := e - 1) (N := 10) (by omega) (by omega), ni_c (n := e - 1) (by omega), cond_true, show lk 40 0 (e - 1) = true from hl 40 0 (e - 1) rfl (by decide) (by
            have : sd_n 40 = 10 := rfl
            omega)]
          rw [if_pos (show Int32.ofNat 0 ≤ 0 from Int32.le_refl _)]
      refine EV_bk (k := 400) ?_
      rw [bk_112_0, hl 27 0 6 rfl (by decide) (by decide), cond_true, hl 27 0 4 rfl (by decide) (by decide), cond_true, r16]
      simp only [ev_bi, ↓reduceIte]
    · refine EV_bk (k := 400) ?_
      rw [bk_220_0, if_pos (show ev_u3 d 44 0 0 0 44 0 25 = 0 by rw [u3x (by decide), hu]; rfl)]
  · obtain ⟨C, τ, hτ, gk⟩ := hk (c - 1) (by omega)
    have ei : 3 + (e + 10 - c + (c - 1)) % 10 = (e + 9) % 10 + 3 := by omega
    rw [ei] at gk
    have cm : Int32.ofNat c - 1 = Int32.ofNat (c - 1) := by
      have := ni_1 (c - 1)
      rw [show c - 1 + 1 = c by omega] at this
      rw [← this, Int32.sub_eq_add_neg, Int32.add_assoc, show (1 : Int32) + -1 = 0 from by decide, Int32.add_zero]
    have c0 : ¬ Int32.ofNat c ≤ 0 := fun v => by
      have := (ni_le (b := 0) (by omega) (by omega)).mp v
      omega
    intro n o hn
    obtain ⟨d1, e1, c1⟩ := ec_cpState (n := n) (o := o) (d := d) hl (i := 1) (j := (e + 9) % 10 + 3) (by decide) (by omega) (GS_tr gk)
    have s1 := GS_cp c1 gk
    have f1 : ∀ r, 24 ≤ r → d1 r = d r := fun r hr => funext fun x => c1.1 r x (by omega)
    have fs : ∀ r x, r < 24 → x ≠ 1 → d1 r x = d r x := fun r x _ hx => c1.1 r x (by omega)
    -- the program's memory
    have r16 : EV (16, 0, [ev_R 39 0, ev_R 0 1], [], 0, 0) (n, lk, d, o) = some (.inl (some (ev_I 1)), (n, lk, ev_u3 (ev_u3 d1 39 0 1 (Int32.ofNat ((e + 9) % 10))) 39 0 2 (Int32.ofNat (c - 1)), o)) := by
      refine EV_bk (k := 400) ?_
      rw [bk_16_0, hl 39 0 0 rfl (by decide) (by decide), cond_true, show ev_in 9 10 = true from rfl, show lk 40 0 9 = true from hl 40 0 9 rfl (by decide) (by decide), cond_true, cond_true, hc, if_neg c0, he]
      by_cases ze : e = 0
      · subst ze
        have e1' : EV (63, 0, [ev_R 0 1, ev_R 0 (9 + 3)], [], 0, 0) (n, lk, d, o) = _ := e1
        rw [if_pos (show Int32.ofNat 0 ≤ 0 from Int32.le_refl _), e1']
        simp only [ev_bv]
        rw [u3x (by decide), f1 39 (by decide), hc, cm]
        rfl
      · have em : Int32.ofNat e - 1 = Int32.ofNat (e - 1) := by
          have := ni_1 (e - 1)
          rw [show e - 1 + 1 = e by omega] at this
          rw [← this, Int32.sub_eq_add_neg, Int32.add_assoc, show (1 : Int32) + -1 = 0 from by decide, Int32.add_zero]
        have ei2 : (e + 9) % 10 = e - 1 := by omega
        rw [ei2] at e1
        rw [if_neg (fun v => by
          have := (ni_le (b := 0) (by omega) (by omega)).mp v
          omega), em]
        simp only [ni_in (n := e - 1) (N := 10) (by omega) (by omega), ni_c (n := e - 1) (by omega), cond_true, show lk 40 0 (e - 1) = true from hl 40 0 (e - 1) rfl (by decide) (by
            have : sd_n 40 = 10 := rfl
            omega), if_neg c0]
        rw [e1]
        simp only [ev_bv]
        rw [u3x (by decide), f1 39 (by decide), hc, cm, ei2]
    generalize hd2 : ev_u3 (ev_u3 d1 39 0 1 (Int32.ofNat ((e + 9) % 10))) 39 0 2 (Int32.ofNat (c - 1)) = d2 at *
    have f2 : ∀ r, 24 ≤ r → r ≠ 39 → d2 r = d r := fun r hr h39 => by rw [← hd2, u3n h39, u3n h39, f1 r hr]
    have fs2 : ∀ r x, r < 24 → d2 r x = d1 r x := fun r x hr => by rw [← hd2, u3n (by omega), u3n (by omega)]
    have h391 : d2 39 0 1 = Int32.ofNat ((e + 9) % 10) := by rw [← hd2, u3x (by decide), u3s]
    have h392 : d2 39 0 2 = Int32.ofNat (c - 1) := by rw [← hd2, u3s]
    -- the reference's memory
    have cp := em_cp_58_46 (n := n) (lk := lk) (o := o) (d := ev_u3 (ev_u3 d2 44 0 0 0) 44 0 25 (Int32.ofNat (c - 1))) (a := 615 * (c - 1)) (b := 0) (by omega) (by omega)
    have cp' : EV (218, 0, [ev_R 58 0, ev_I (Int32.ofNat (615 * (c - 1))), ev_R 46 0, ev_I 0], [], 0, 0) (n, lk, ev_u3 (ev_u3 d2 44 0 0 0) 44 0 25 (Int32.ofNat (c - 1)), o) = _ := cp
    have m220 : EV (220, 0, [ev_R 44 0], [], 0, 0) (n, lk, d2, o) = some (.inl (some (ev_I (Int32.ofNat (c - 1)))), (n, lk, ev_w3 (ev_u3 (ev_u3 d2 44 0 0 0) 44 0 25 (Int32.ofNat (c - 1))) 46 0 (ms_cp (ev_u3 (ev_u3 d2 44 0 0 0) 44 0 25 (Int32.ofNat (c - 1)) 58 0) (ev_u3 (ev_u3 d2 44 0 0 0) 44 0 25 (Int32.ofNat (c - 1)) 46 0) (615 * (c - 1)) 0 615), o)) := by
      have e25 : ev_u3 d2 44 0 0 0 44 0 25 = Int32.ofNat c := by rw [u3x (by decide), f2 44 (by decide) (by decide), hu]
      refine EV_bk (k := 400) ?_
      rw [bk_220_0, e25, if_neg (fun v => c0 (by rw [v]; exact Int32.le_refl _)), hl 44 0 26 rfl (by decide) (by decide), cond_true, hl 44 0 2 rfl (by decide) (by decide), cond_true, cm, u3s, ni_615, cp']
      simp only [ev_bv]
      rw [w3n (by decide), u3s]
    generalize hd4 : ev_w3 (ev_u3 (ev_u3 d2 44 0 0 0) 44 0 25 (Int32.ofNat (c - 1))) 46 0 (ms_cp (ev_u3 (ev_u3 d2 44 0 0 0) 44 0 25 (Int32.ofNat (c - 1)) 58 0) (ev_u3 (ev_u3 d2 44 0 0 0) 44 0 25 (Int32.ofNat (c - 1)) 46 0) (615 * (c - 1)) 0 615) = d4 at *
    have f4 : ∀ r, r ≠ 44 → r ≠ 46 → d4 r = d2 r := fun r h1 h2 => by rw [← hd4, w3n h2, u3n h1, u3n h1]
    have f44 : ∀ k, k ≠ 0 → k ≠ 25 → d4 44 0 k = d 44 0 k := fun k h1 h2 => by rw [← hd4, w3n (by decide), u3x h2, u3x h1, f2 44 (by decide) (by decide)]
    have f425 : d4 44 0 25 = Int32.ofNat (c - 1) := by rw [← hd4, w3n (by decide), u3s]
    have f46 : ∀ j, j < 615 → d4 46 0 j = d 58 0 (615 * (c - 1) + j) := fun j hj => by
      rw [← hd4, w3s]
      unfold ms_cp
      rw [if_pos (by omega), u3n (by decide), u3n (by decide), f2 58 (by decide) (by decide), show j - 0 = j by omega]
    have f4d : ∀ r, 24 ≤ r → r ≠ 39 → r ≠ 44 → r ≠ 46 → d4 r = d r := fun r h1 h2 h3 h4 => by rw [f4 r h3 h4, f2 r h1 h2]
    refine ⟨Int32.ofNat (c - 1), d2, d4, ⟨f2 103 (by decide) (by decide), f2 104 (by decide) (by decide)⟩, ⟨f4d 103 (by decide) (by decide) (by decide) (by decide), f4d 104 (by decide) (by decide) (by decide) (by decide)⟩, ?_, ?_, m220⟩
    · refine ⟨B, R, T, by rw [f4d 45 (by decide) (by decide) (by decide) (by decide)]; exact g1, ?_, by rw [f4d 24 (by decide) (by decide) (by decide) (by decide)]; exact g3, ⟨C, τ, hτ, ?_⟩, ?_, ?_, ?_, ?_⟩
      · rw [f4d 45 (by decide) (by decide) (by decide) (by decide)]
        exact CL_d g2 (by rw [f4d 24 (by decide) (by decide) (by decide) (by decide)]) (by rw [f4d 25 (by decide) (by decide) (by decide) (by decide)]) (by rw [f4d 26 (by decide) (by decide) (by decide) (by decide)])
      · exact GS_w (GS_d s1 (fun r hr => by rw [f4 r (by omega) (by omega), fs2 r 1 hr])) (fun j hj => f46 j hj)
      · exact GT_d g5 (by rw [f4d 29 (by decide) (by decide) (by decide) (by decide)]) (f44 4 (by decide) (by decide)) (by rw [f4d 30 (by decide) (by decide) (by decide) (by decide)]) (by rw [f4d 47 (by decide) (by decide) (by decide) (by decide)])
      · rw [f4d 27 (by decide) (by decide) (by decide) (by decide), f44 11 (by decide) (by decide)]
        exact g6
      · refine ⟨(e + 9) % 10, c - 1, by omega, by omega, by rw [f4 39 (by decide) (by decide), h391], by rw [f4 39 (by decide) (by decide), h392], f425, fun k hkc => ?_⟩
        obtain ⟨C', τ', hτ', g⟩ := hk k (by omega)
        have ej : 3 + ((e + 9) % 10 + 10 - (c - 1) + k) % 10 = 3 + (e + 10 - c + k) % 10 := by omega
        rw [ej, f4d 58 (by decide) (by decide) (by decide) (by decide)]
        exact ⟨C', τ', hτ', GS_d g (fun r hr => by rw [f4 r (by omega) (by omega), fs2 r _ hr, fs r _ hr (by omega)])⟩
      · exact GN_d g8 (fun r i hr h1 h2 => by rw [f4 r (by omega) (by omega), fs2 r i hr, fs r i hr (by omega)]) (by rw [f4d 43 (by decide) (by decide) (by decide) (by decide)]) (by rw [f4d 60 (by decide) (by decide) (by decide) (by decide)]) (by rw [f4d 59 (by decide) (by decide) (by decide) (by decide)])
    · refine EV_bk (k := 400) ?_
      rw [bk_112_0, hl 27 0 6 rfl (by decide) (by decide), cond_true, hl 27 0 4 rfl (by decide) (by decide), cond_true, r16]
      simp (decide := true) only [ev_bi, ↓reduceIte, hl 27 0 6 rfl (by decide) (by decide), cond_true]
      rw [h392]
theorem op_save (hl : LK lk) (h : GI d) {x : Int32} : OPHB (113, 0, [ev_R 27 0, ev_I x], [], 0, 0) (222, 0, [ev_R 44 0, ev_I x], [], 0, 0) kf_C lk d := by
  obtain ⟨B, R, T, g1, g2, g3, ⟨C, τ, hτ, g4⟩, g5, g6, g7, g8⟩ := id h
  by_cases z : 0 ≤ x ∧ x < Int32.ofNat 2
  · obtain ⟨s, hs, ex⟩ := ni_of (by omega) z.1 z.2
    subst ex
    obtain ⟨y1, y2⟩ := g8 s hs
    have v01 : d 43 0 s = 0 ∨ d 43 0 s = 1 := y2.imp id (fun a => a.1)
    have okv : ev_ok 2 (d 43 0 s) = true := by
      rcases v01 with v | v <;> rw [v] <;> rfl
    have L42 : lk 42 0 s = true := hl 42 0 s rfl (by decide) (by
      have : sd_n 42 = 2 := rfl
      omega)
    intro n o hn
    obtain ⟨d1, e1, c1⟩ := ec_cpState (n := n) (o := o) (d := d) hl (i := s + 13) (j := 1) (by omega) (by decide) (GS_tr g4)
    have s1 := GS_cp c1 g4
    have f1 : ∀ r, 24 ≤ r → d1 r = d r := fun r hr => funext fun x => c1.1 r x (by omega)
    have fs : ∀ r x, r < 24 → x ≠ s + 13 → d1 r x = d r x := fun r x _ hx => c1.1 r x (by omega)
    generalize hd2 : ev_u3 d1 43 0 s 1 = d2
    have f2 : ∀ r, 24 ≤ r → r ≠ 43 → d2 r = d r := fun r hr h43 => by rw [← hd2, u3n h43, f1 r hr]
    have fs2 : ∀ r x, r < 24 → d2 r x = d1 r x := fun r x hr => by rw [← hd2, u3n (by omega)]
    have f43 : ∀ j, d2 43 0 j = if j = s then 1 else d 43 0 j := fun j => by
      rw [← hd2]
      by_cases e : j = s
      · rw [if_pos e, e, u3s]
      · rw [if_neg e, u3x e, f1 43 (by decide)]
    have cp := em_cp_46_59 (n := n) (lk := lk) (o := o) (d := ev_u3 d2 44 0 0 0) (a := 0) (b := 615 * s) (by omega) (by omega)
    have cp' : EV (218, 0, [ev_R 46 0, ev_I 0, ev_R 59 0, ev_I (Int32.ofNat (615 * s))], [], 0, 0) (n, lk, ev_u3 d2 44 0 0 0, o) = _ := cp
    generalize hd4 : ev_u3 (ev_w3 (ev_u3 d2 44 0 0 0) 59 0 (ms_cp (ev_u3 d2 44 0 0 0 46 0) (ev_u3 d2 44 0 0 0 59 0) 0 (615 * s) 615)) 60 0 s 1 = d4
    have f4 : ∀ r, r ≠ 44 → r ≠ 59 → r ≠ 60 → d4 r = d2 r := fun r h1 h2 h3 => by rw [← hd4, u3n h3, w3n h2, u3n h1]
    have f44 : ∀ k, k ≠ 0 → d4 44 0 k = d 44 0 k := fun k h1 => by rw [← hd4, u3n (by decide), w3n (by decide), u3x h1, f2 44 (by decide) (by decide)]
    have f60 : ∀ j, d4 60 0 j = if j = s then 1 else d 60 0 j := fun j => by
      rw [← hd4]
      by_cases e : j = s
      · rw [if_pos e, e, u3s]
      · rw [if_neg e, u3x e, w3n (by decide), u3n (by decide), f2 60 (by decide) (by decide)]
    have f59 : ∀ s' j, s' < 2 → j < 615 → d4 59 0 (615 * s' + j) = if s' = s then d 46 0 j else d 59 0 (615 * s' + j) := fun s' j hs' hj => by
      rw [← hd4, u3n (by decide), w3s]
      unfold ms_cp
      by_cases e : s' = s
      · rw [if_pos (by omega), if_pos e, u3n (by decide), f2 46 (by decide) (by decide), show 0 + (615 * s' + j - 615 * s) = j by omega]
      · rw [if_neg (by omega), if_neg e, u3n (by decide), f2 59 (by decide) (by decide)]
    have f4d : ∀ r, 24 ≤ r → r ≠ 43 → r ≠ 44 → r ≠ 59 → r ≠ 60 → d4 r = d r := fun r h1 h2 h3 h4 h5 => by rw [f4 r h3 h4 h5, f2 r h1 h2]
    refine .inl ⟨d 43 0 s, d2, d4, v01, ⟨f2 103 (by decide) (by decide), f2 104 (by decide) (by decide)⟩, ⟨f4d 103 (by decide) (by decide) (by decide) (by decide) (by decide), f4d 104 (by decide) (by decide) (by decide) (by decide) (by decide)⟩, ?_, by rw [← hd4, u3n (by decide), w3n (by decide), u3s], ?_, ?_⟩
    · have e45 : d4 45 = d 45 := f4d 45 (by decide) (by decide) (by decide) (by decide) (by decide)
      have ea : ∀ r, 24 ≤ r → r ≤ 26 → d4 r = d r := fun r h1 h2 => f4d r h1 (by omega) (by omega) (by omega) (by omega)
      refine ⟨B, R, T, by rw [e45]; exact g1, by rw [e45]; exact CL_d g2 (by rw [ea 24 (by decide) (by decide)]) (by rw [ea 25 (by decide) (by decide)]) (by rw [ea 26 (by decide) (by decide)]), by rw [ea 24 (by decide) (by decide)]; exact g3, ⟨C, τ, hτ, ?_⟩, ?_, ?_, ?_, ?_⟩
      · rw [f4d 46 (by decide) (by decide) (by decide) (by decide) (by decide)]
        exact GS_d g4 (fun r hr => by rw [f4 r (by omega) (by omega) (by omega), fs2 r 1 hr, fs r 1 hr (by omega)])
      · exact GT_d g5 (by rw [f4d 29 (by decide) (by decide) (by decide) (by decide) (by decide)]) (f44 4 (by decide)) (by rw [f4d 30 (by decide) (by decide) (by decide) (by decide) (by decide)]) (by rw [f4d 47 (by decide) (by decide) (by decide) (by decide) (by decide)])
      · rw [f4d 27 (by decide) (by decide) (by decide) (by decide) (by decide), f44 11 (by decide)]
        exact g6
      · exact GH_d g7 (fun r i hr h1 h2 => by rw [f4 r (by omega) (by omega) (by omega), fs2 r i hr, fs r i hr (by omega)]) (by rw [f4d 39 (by decide) (by decide) (by decide) (by decide) (by decide)]) (f44 25 (by decide)) (by rw [f4d 58 (by decide) (by decide) (by decide) (by decide) (by decide)])
      · intro s' hs'
        rw [f4 43 (by decide) (by decide) (by decide), f43, f60]
        by_cases e : s' = s
        · subst e
          rw [if_pos rfl, if_pos rfl]
          refine ⟨rfl, .inr ⟨rfl, C, τ, hτ, ?_⟩⟩
          rw [show 13 + s' = s' + 13 by omega]
          exact GS_w (GS_d s1 (fun r hr => by rw [f4 r (by omega) (by omega) (by omega), fs2 r _ hr])) (fun j hj => by
            show d4 59 0 (615 * s' + j) = _
            rw [f59 s' j hs' hj, if_pos rfl])
        · rw [if_neg e, if_neg e]
          obtain ⟨w1, w2⟩ := g8 s' hs'
          refine ⟨w1, w2.imp id (fun a => ?_)⟩
          obtain ⟨a1, C', τ', hτ', g⟩ := a
          exact ⟨a1, C', τ', hτ', GS_w (GS_d g (fun r hr => by rw [f4 r (by omega) (by omega) (by omega), fs2 r _ hr, fs r _ hr (by omega)])) (fun j hj => by
            show d4 59 0 (615 * s' + j) = d 59 0 (615 * s' + j)
            rw [f59 s' j hs' hj, if_neg e])⟩
    · have r59 : EV (59, 0, [ev_R 41 0, ev_I (Int32.ofNat s), ev_R 0 1], [], 0, 0) (n, lk, d, o) = some (.inl (some (ev_I (d 43 0 s))), (n, lk, d2, o)) := by
        refine EV_bk (k := 400) ?_
        rw [bk_59_0]
        simp only [hl 41 0 0 rfl (by decide) (by decide), hl 41 0 1 rfl (by decide) (by decide), cond_true, ni_in (n := s) (N := 2) (by omega) (by omega), ni_c (n := s) (by omega), L42]
        rw [e1]
        simp only [ev_bv, hl 41 0 1 rfl (by decide) (by decide), cond_true, okv]
        rw [hd2]
      refine EV_bk (k := 400) ?_
      rw [bk_113_0, ec_reqSlot hn, if_pos z]
      simp only [ev_bv, hl 27 0 7 rfl (by decide) (by decide), hl 27 0 4 rfl (by decide) (by decide), cond_true]
      rw [r59]
      simp only [ev_bi, okv, cond_true]
    · have e60 : ev_u3 d2 44 0 0 0 60 0 s = d 43 0 s := by rw [u3n (by decide), f2 60 (by decide) (by decide), y1]
      refine EV_bk (k := 400) ?_
      rw [bk_222_0, em_noSlot, if_pos z]
      simp only [ev_bi, ↓reduceIte, hl 44 0 28 rfl (by decide) (by decide), hl 44 0 2 rfl (by decide) (by decide), hl 44 0 27 rfl (by decide) (by decide), cond_true, ni_in (n := s) (N := 2) (by omega) (by omega), ni_c (n := s) (by omega), ni_615]
      rw [cp']
      simp only [ev_bv, hl 44 0 28 rfl (by decide) (by decide), cond_true]
      rw [e60, okv, cond_true, hd4]
  · intro n o hn
    refine .inr ⟨1, 0, ev_u3 d 44 0 0 1, SC_GF GF_thrown, GI_GF h GF_thrown, u3s, by decide, by decide, ?_, ?_⟩
    · refine EV_bk (k := 400) ?_
      rw [bk_113_0, ec_reqSlot hn, if_neg z]
      rfl
    · refine EV_bk (k := 400) ?_
      rw [bk_222_0, em_noSlot, if_neg z]
      simp (decide := true) only [ev_bi, ↓reduceIte]
theorem op_restore (hl : LK lk) (h : GI d) {x : Int32} : OPH (114, 0, [ev_R 27 0, ev_I x], [], 0, 0) (223, 0, [ev_R 44 0, ev_I x], [], 0, 0) kf_E lk d := by
  obtain ⟨B, R, T, g1, g2, g3, g4, g5, g6, ⟨e, c, he10, hc10, he, hc, hu, hk⟩, g8⟩ := id h
  by_cases z : 0 ≤ x ∧ x < Int32.ofNat 2
  · obtain ⟨s, hs, ex⟩ := ni_of (by omega) z.1 z.2
    subst ex
    obtain ⟨y1, y2⟩ := g8 s hs
    have L42 : lk 42 0 s = true := hl 42 0 s rfl (by decide) (by
      have : sd_n 42 = 2 := rfl
      omega)
    rcases y2 with v0 | ⟨v1, C, τ, hτ, gk⟩
    · refine OPH_no (E := 2) (v := 0) h (GF_thrown (v := 2)) (by decide) (by decide) u3s (fun n o hn => ?_) (fun n o => ?_)
      · have r60 : EV (60, 0, [ev_R 41 0, ev_I (Int32.ofNat s), ev_R 0 1], [], 0, 0) (n, lk, d, o) = some (.inl (some (ev_I 0)), (n, lk, d, o)) := by
          refine EV_bk (k := 400) ?_
          rw [bk_60_0]
          simp only [hl 41 0 0 rfl (by decide) (by decide), hl 41 0 1 rfl (by decide) (by decide), cond_true, ni_in (n := s) (N := 2) (by omega) (by omega), ni_c (n := s) (by omega), L42]
          rw [if_pos v0]
        refine EV_bk (k := 400) ?_
        rw [bk_114_0, ec_reqSlot hn, if_pos z]
        simp only [ev_bv, hl 27 0 7 rfl (by decide) (by decide), hl 27 0 4 rfl (by decide) (by decide), cond_true]
        rw [r60]
        simp only [ev_bi, ↓reduceIte]
        rw [Nat.ble_eq.mpr hn, cond_true]
      · refine EV_bk (k := 400) ?_
        rw [bk_223_0, em_noSlot, if_pos z]
        simp only [ev_bi, ↓reduceIte, hl 44 0 28 rfl (by decide) (by decide), cond_true, ni_in (n := s) (N := 2) (by omega) (by omega), ni_c (n := s) (by omega)]
        rw [if_pos (show ev_u3 d 44 0 0 0 60 0 s = 0 by rw [u3n (by decide), ← y1, v0]), em_throws1 u3s (by decide), u3u]
        simp (decide := true) only [↓reduceIte]
    · intro n o hn
      rw [show 13 + s = s + 13 by omega] at gk
      obtain ⟨d1, e1, c1⟩ := ec_cpState (n := n) (o := o) (d := d) hl (i := 1) (j := s + 13) (by decide) (by omega) (GS_tr gk)
      have s1 := GS_cp c1 gk
      have f1 : ∀ r, 24 ≤ r → d1 r = d r := fun r hr => funext fun x => c1.1 r x (by omega)
      have fs : ∀ r x, r < 24 → x ≠ 1 → d1 r x = d r x := fun r x _ hx => c1.1 r x (by omega)
      generalize hd2 : ev_u3 d1 39 0 2 0 = d2
      have f2 : ∀ r, 24 ≤ r → r ≠ 39 → d2 r = d r := fun r hr h39 => by rw [← hd2, u3n h39, f1 r hr]
      have fs2 : ∀ r x, r < 24 → d2 r x = d1 r x := fun r x hr => by rw [← hd2, u3n (by omega)]
      obtain ⟨⟨K1, q1⟩, I1⟩ := id s1
      have t8 : d1 0 1 0 = d 59 0 (615 * s + 8) := cs_tm q1
      have cp := em_cp_59_46 (n := n) (lk := lk) (o := o) (d := ev_u3 d2 44 0 0 0) (a := 615 * s) (b := 0) (by omega) (by omega)
      have cp' : EV (218, 0, [ev_R 59 0, ev_I (Int32.ofNat (615 * s)), ev_R 46 0, ev_I 0], [], 0, 0) (n, lk, ev_u3 d2 44 0 0 0, o) = _ := cp
      generalize hd3 : ev_w3 (ev_u3 d2 44 0 0 0) 46 0 (ms_cp (ev_u3 d2 44 0 0 0 59 0) (ev_u3 d2 44 0 0 0 46 0) (615 * s) 0 615) = d3 at *
      have f46 : ∀ j, j < 615 → d3 46 0 j = d 59 0 (615 * s + j) := fun j hj => by
        rw [← hd3, w3s]
        unfold ms_cp
        rw [if_pos (by omega), u3n (by decide), f2 59 (by decide) (by decide), show j - 0 = j by omega]
      have f3 : ∀ r, r ≠ 44 → r ≠ 46 → d3 r = d2 r := fun r h1 h2 => by rw [← hd3, w3n h2, u3n h1]
      generalize hd4 : ev_u3 d3 44 0 25 0 = d4
      have f4 : ∀ r, r ≠ 44 → r ≠ 46 → d4 r = d2 r := fun r h1 h2 => by rw [← hd4, u3n h1, f3 r h1 h2]
      have f44 : ∀ k, k ≠ 0 → k ≠ 25 → d4 44 0 k = d 44 0 k := fun k h1 h2 => by rw [← hd4, u3x h2, ← hd3, w3n (by decide), u3x h1, f2 44 (by decide) (by decide)]
      have f4d : ∀ r, 24 ≤ r → r ≠ 39 → r ≠ 44 → r ≠ 46 → d4 r = d r := fun r h1 h2 h3 h4 => by rw [f4 r h3 h4, f2 r h1 h2]
      refine .inl ⟨d 59 0 (615 * s + 8), d2, d4, ⟨f2 103 (by decide) (by decide), f2 104 (by decide) (by decide)⟩, ⟨f4d 103 (by decide) (by decide) (by decide) (by decide), f4d 104 (by decide) (by decide) (by decide) (by decide)⟩, ?_, by rw [← hd4, u3x (by decide), ← hd3, w3n (by decide), u3s], ?_, ?_⟩
      · have ea : ∀ r, 24 ≤ r → r ≤ 26 → d4 r = d r := fun r h1 h2 => f4d r h1 (by omega) (by omega) (by omega)
        have e45 : d4 45 = d 45 := f4d 45 (by decide) (by decide) (by decide) (by decide)
        refine ⟨B, R, T, by rw [e45]; exact g1, by rw [e45]; exact CL_d g2 (by rw [ea 24 (by decide) (by decide)]) (by rw [ea 25 (by decide) (by decide)]) (by rw [ea 26 (by decide) (by decide)]), by rw [ea 24 (by decide) (by decide)]; exact g3, ⟨C, τ, hτ, ?_⟩, ?_, ?_, ?_, ?_⟩
        · exact GS_w (GS_d s1 (fun r hr => by rw [f4 r (by omega) (by omega), fs2 r 1 hr])) (fun j hj => by rw [← hd4, u3n (by decide), f46 j hj])
        · exact GT_d g5 (by rw [f4d 29 (by decide) (by decide) (by decide) (by decide)]) (f44 4 (by decide) (by decide)) (by rw [f4d 30 (by decide) (by decide) (by decide) (by decide)]) (by rw [f4d 47 (by decide) (by decide) (by decide) (by decide)])
        · rw [f4d 27 (by decide) (by decide) (by decide) (by decide), f44 11 (by decide) (by decide)]
          exact g6
        · refine ⟨e, 0, he10, by omega, ?_, ?_, ?_, fun k hk0 => absurd hk0 (Nat.not_lt_zero _)⟩
          · rw [f4 39 (by decide) (by decide), ← hd2, u3x (by decide), f1 39 (by decide), he]
          · rw [f4 39 (by decide) (by decide), ← hd2, u3s]
            rfl
          · rw [← hd4, u3s]
            rfl
        · exact GN_d g8 (fun r i hr h1 h2 => by rw [f4 r (by omega) (by omega), fs2 r i hr, fs r i hr (by omega)]) (by rw [f4d 43 (by decide) (by decide) (by decide) (by decide)]) (by rw [f4d 60 (by decide) (by decide) (by decide) (by decide)]) (by rw [f4d 59 (by decide) (by decide) (by decide) (by decide)])
      · have r60 : EV (60, 0, [ev_R 41 0, ev_I (Int32.ofNat s), ev_R 0 1], [], 0, 0) (n, lk, d, o) = some (.inl (some (ev_I 1)), (n, lk, d1, o)) := by
          refine EV_bk (k := 400) ?_
          rw [bk_60_0]
          simp only [hl 41 0 0 rfl (by decide) (by decide), hl 41 0 1 rfl (by decide) (by decide), cond_true, ni_in (n := s) (N := 2) (by omega) (by omega), ni_c (n := s) (by omega), L42]
          rw [if_neg (by rw [v1]; decide), e1]
          rfl
        have r14 : EV (14, 0, [ev_R 39 0], [], 0, 0) (n, lk, d1, o) = some (.inl none, (n, lk, d2, o)) := by
          refine EV_bk (k := 400) ?_
          rw [bk_14_0, hd2]
        refine EV_bk (k := 400) ?_
        rw [bk_114_0, ec_reqSlot hn, if_pos z]
        simp only [ev_bv, hl 27 0 7 rfl (by decide) (by decide), hl 27 0 4 rfl (by decide) (by decide), cond_true]
        rw [r60]
        simp (decide := true) only [ev_bi, ↓reduceIte, hl 27 0 6 rfl (by decide) (by decide), cond_true]
        rw [r14]
        simp only [hl 27 0 4 rfl (by decide) (by decide), cond_true]
        rw [fs2 0 1 (by decide), t8]
      · refine EV_bk (k := 400) ?_
        rw [bk_223_0, em_noSlot, if_pos z]
        simp only [ev_bi, ↓reduceIte, hl 44 0 28 rfl (by decide) (by decide), cond_true, ni_in (n := s) (N := 2) (by omega) (by omega), ni_c (n := s) (by omega)]
        rw [if_neg (show ¬ ev_u3 d2 44 0 0 0 60 0 s = 0 by rw [u3n (by decide), f2 60 (by decide) (by decide), ← y1, v1]; decide), em_throws0 u3s]
        simp only [↓reduceIte, hl 44 0 27 rfl (by decide) (by decide), hl 44 0 2 rfl (by decide) (by decide), cond_true, ni_615]
        rw [cp']
        simp only [ev_bv, hl 44 0 2 rfl (by decide) (by decide), cond_true]
        rw [f46 8 (by omega), hd4]
  · refine OPH_no (E := 1) (v := 0) h (GF_thrown (v := 1)) (by decide) (by decide) u3s (fun n o hn => ?_) (fun n o => ?_)
    · refine EV_bk (k := 400) ?_
      rw [bk_114_0, ec_reqSlot hn, if_neg z]
      rfl
    · refine EV_bk (k := 400) ?_
      rw [bk_223_0, em_noSlot, if_neg z]
      simp (decide := true) only [ev_bi, ↓reduceIte]
end EC35
