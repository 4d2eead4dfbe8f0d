/-! THE LAW'S METHODS, 31: the program and the reference read the law's text -/
section PAR
variable {lk : Nat → Nat → Nat → Bool} {d : Nat → Nat → Nat → Int32}
theorem ol_parse (hl : LK lk) (h : GI d) {l0 len : Nat} (h4 : d 44 0 4 = Int32.ofNat l0) (hll0 : len ≤ l0) (h6 : l0 ≤ 600) {t s a : Nat → Int32} {m : Int32} {C : Nat} (hRS : RS lk (d 47 0) len len t s a m C) (hC : C ≤ 20) (n : Nat) (o : ev_W) :
    ∃ e4 dz, CR e4 dz ∧ GI dz ∧ dz 44 0 4 = 0 ∧ dz 104 = d 104 ∧ (∀ k, k < 132 → dz 45 0 k = t k) ∧ (∀ k, k < 615 → dz 46 0 k = pw s a C k) ∧ EV (88, 0, [ev_R 27 0, ev_I (Int32.ofNat len)], [], 0, 0) (n, lk, d, o) = some (.inl (some (ev_I 0)), (n, lk, e4, o)) ∧ EV (151, 0, [ev_R 44 0, ev_I (Int32.ofNat len)], [], 0, 0) (n, lk, e4, o) = some (.inl (some (ev_I 0)), (n, lk, dz, o)) := by
  obtain ⟨B, R, T, g1, g2, g3, ⟨C0, τ, hτ, g4⟩, ⟨l, hl6, hl1, hl2, hl3⟩, g6, ⟨he, hc, hc1, hc2, hc3, hc4, hc5, hc6⟩, g8⟩ := id h
  have el : l0 = l := (ni_eq (by omega) (by omega)).mp (h4.symm.trans hl2)
  subst el
  have L271 : lk 27 0 1 = true := hl 27 0 1 rfl (by decide) (by decide)
  have hll : len ≤ l0 := hll0
  have z1 : (0 : Int32) ≤ Int32.ofNat len := ni_lo (by omega)
  have hx0 : ¬ Int32.ofNat len < 0 := Int32.not_lt.mpr z1
  have hxl : Int32.ofNat len ≤ d 29 0 1 := by rw [hl1]; exact (ni_le (by omega) (by omega)).mpr hll
  have rd := fun dd h1 h2 => pr_read hl (b := d 47 0) hl1 hll hl6 (fun y hy => (hl3 y (by omega)).1) (fun y hy => (hl3 y (by omega)).2) n o n o dd h1 h2
  rcases rd d hl2 (fun _ _ => rfl) with ⟨dc, dr0, B1, R1, C1, ec, -, kx, -, qs0, -⟩ | ⟨dc, dr0, -, em, -, -, pe⟩
  rotate_left
  · obtain ⟨dy, ey, -⟩ := RS_end (n := n) (o := o) hl hRS hC (d := d) ⟨l0, hl2, hll, hl6, fun y hy => ⟨rfl, (hl3 y (by omega)).2⟩⟩
    rw [em] at ey
    have : dr0 44 0 10 = 0 := by
      have := congrArg (fun t => match t with | some (.inl (some (.inl (.inl v))), _) => v | _ => 0) ey
      exact this
    exact absurd this pe.1
  have h01 : dc 0 0 1 = 0 ∨ dc 0 0 1 = 1 := by
    rw [qs0.2.2.2.1.2.1, pw_lo (by decide)]
    exact qs0.2.2.2.2.2.2.1.2.2.2.1
  obtain ⟨e1, x1, f1, y24, yc⟩ := ec_cpLayout (n := n) (o := o) (d := ev_u3 (ev_u3 dc 29 0 1 0) 27 0 8 (-1)) hl
  have e1o : ∀ r i, r < 24 ∨ 26 < r ∨ i ≠ 1 → r ≠ 27 → r ≠ 29 → e1 r i = dc r i := fun r i h1 h2 h3 => by rw [f1 r i h1, u3n h2, u3n h3]
  obtain ⟨e2, x2, cps⟩ := ec_cpState (n := n) (o := o) (d := e1) hl (i := 1) (j := 0) (by decide) (by decide) (by rw [e1o 0 0 (by omega) (by decide) (by decide)]; exact h01)
  have e2o : ∀ r i, 23 < r ∨ i ≠ 1 → e2 r i = e1 r i := fun r i h1 => cps.1 r i (by omega)
  have ea : EV (88, 0, [ev_R 27 0, ev_I (Int32.ofNat len)], [], 0, 0) (n, lk, d, o) = some (.inl (some (ev_I 0)), (n, lk, ev_u3 (ev_u3 (ev_u3 e2 39 0 2 0) 43 0 0 0) 43 0 1 0, o)) := by
    refine EV_bk (k := 400) ?_
    rw [bk_88_0, if_neg hx0, L271, cond_true, if_pos hxl, hl 27 0 0 rfl (by decide) (by decide), cond_true, ec]
    simp only [ev_bi, hl 27 0 1 rfl (by decide) (by decide), hl 27 0 0 rfl (by decide) (by decide), hl 27 0 3 rfl (by decide) (by decide), hl 28 0 1 rfl (by decide) (by decide), hl 27 0 4 rfl (by decide) (by decide), hl 28 0 2 rfl (by decide) (by decide), hl 27 0 6 rfl (by decide) (by decide), hl 27 0 7 rfl (by decide) (by decide), cond_true, ↓reduceIte, x1, ev_bv, x2, ec_clear14, ec_clear58 hl]
  have k4 : ∀ r, r ≠ 39 → r ≠ 43 → ev_u3 (ev_u3 (ev_u3 e2 39 0 2 0) 43 0 0 0) 43 0 1 0 r = e2 r := fun r h1 h2 => by rw [u3n h2, u3n h2, u3n h1]
  have k39 : ev_u3 (ev_u3 (ev_u3 e2 39 0 2 0) 43 0 0 0) 43 0 1 0 39 0 2 = 0 := by rw [u3n (by decide), u3n (by decide), u3s]
  have k39' : ev_u3 (ev_u3 (ev_u3 e2 39 0 2 0) 43 0 0 0) 43 0 1 0 39 0 1 = e2 39 0 1 := by rw [u3n (by decide), u3n (by decide), u3x (by decide)]
  have k43 : ∀ s, s < 2 → ev_u3 (ev_u3 (ev_u3 e2 39 0 2 0) 43 0 0 0) 43 0 1 0 43 0 s = 0 := fun s hs => by
    match s, hs with
    | 0, _ => rw [u3x (by decide), u3s]
    | 1, _ => rw [u3s]
  generalize hd1 : ev_u3 (ev_u3 (ev_u3 e2 39 0 2 0) 43 0 0 0) 43 0 1 0 = e4 at *
  have kk : ∀ r i, 26 < r ∨ (i ≠ 0 ∧ i ≠ 1) → r ≠ 27 → r ≠ 28 → r ≠ 29 → r ≠ 31 → r ≠ 39 → r ≠ 43 → e4 r i = d r i := fun r i h1 h2 h3 h4 h5 h6 h7 => by rw [k4 r h6 h7, e2o r i (by omega), e1o r i (by omega) h2 h4, kx.1 r i (by omega) h3 h4 h5]
  rcases pr_read hl (b := d 47 0) hl1 hll hl6 (fun y hy => (hl3 y (by omega)).1) (fun y hy => (hl3 y (by omega)).2) n o n o e4 (by rw [kk 44 0 (by omega) (by decide) (by decide) (by decide) (by decide) (by decide) (by decide)]; exact hl2) (fun y _ => by rw [kk 47 0 (by omega) (by decide) (by decide) (by decide) (by decide) (by decide) (by decide)]) with ⟨dc', dr, B2, R2, C2, ec', er, -, ku, qs, r11⟩ | ⟨dc', dr, ec', -, -, -, pe⟩
  · rw [ec] at ec'
    have ed : dc = dc' := by
      have := congrArg (fun t => match t with | some (_, (_, _, d, _)) => d | _ => dc) ec'
      exact this
    subst ed
    obtain ⟨q1, q2, ⟨q3, q3', hC20⟩, q6, q7, q8, q9, q10⟩ := qs
    obtain ⟨dz, ez, kb, b25, b45, b46, b60, b61⟩ := em_begins (n := n) (o := o) (d := dr) hl q3' hC20
    have ev := er dz ez
    have dz1 : ∀ r, r ≠ 44 → r ≠ 45 → r ≠ 46 → r ≠ 60 → r ≠ 48 → r ≠ 49 → r ≠ 50 → dz r = e4 r := fun r h1 h2 h3 h4 h5 h6 h7 => by rw [kb.1 r h1 h2 h3 h4, ku.1 r h1 h5 h6 h7]
    have dzr : ∀ r, r < 39 → dz r = e2 r := fun r h1 => by rw [dz1 r (by omega) (by omega) (by omega) (by omega) (by omega) (by omega) (by omega), k4 r (by omega) (by omega)]
    have t45 : TC (dz 45 0) B2 R2 := TC_t q2 b45
    have cse : CS e1 0 (pw (dr 49 0) (dr 50 0) C2) C2 0 := CS_d q6 (fun r hr => e1o r 0 (by omega) (by omega) (by omega))
    obtain ⟨dy, ey, y1, y2⟩ := RS_end (n := n) (o := o) hl hRS hC (d := e4) ⟨l0, by rw [kk 44 0 (by omega) (by decide) (by decide) (by decide) (by decide) (by decide) (by decide)]; exact hl2, hll, hl6, fun y hy => ⟨by rw [kk 47 0 (by omega) (by decide) (by decide) (by decide) (by decide) (by decide) (by decide)], (hl3 y (by omega)).2⟩⟩
    have edy : dz = dy := by
      rw [ev] at ey
      have := congrArg (fun t => match t with | some (_, (_, _, d, _)) => d | _ => dz) ey
      exact this
    subst edy
    refine ⟨e4, dz, fun r hr => dz1 r (by omega) (by omega) (by omega) (by omega) (by omega) (by omega) (by omega), ?_, ?_, ?_, y1, y2, ea, ev⟩
    · refine ⟨B2, R2, C2, t45, ?_, ⟨?_, hC20⟩, ⟨C2, 0, by decide, ⟨0, ?_⟩, SI_w (pw_SI hC20 q9 q10) b46⟩, ⟨0, by decide, ?_, ?_, fun k hk => absurd hk (Nat.not_lt_zero _)⟩, ?_, ⟨he, 0, hc1, by decide, ?_, ?_, ?_, fun k hk => absurd hk (Nat.not_lt_zero _)⟩, fun s hs => ?_⟩
      · refine CL_t (t := dr 48 0) ?_ b45
        obtain ⟨z0, z1, z2, z3, z4⟩ := q1
        have y : ∀ k, k < 5 → dz 24 1 k = dc 24 0 k := fun k hk => by rw [dzr 24 (by decide), e2o 24 1 (by omega), y24 k hk, u3n (by decide), u3n (by decide)]
        refine ⟨by rw [y 0 (by decide), z0], by rw [y 1 (by decide), z1], by rw [y 2 (by decide), z2], by rw [y 3 (by decide), z3], fun c hc => ?_⟩
        have w5 : dz 25 1 c = dc 25 0 c := by rw [dzr 25 (by decide), e2o 25 1 (by omega), (yc c hc).1, u3n (by decide), u3n (by decide)]
        have w6 : dz 26 1 c = dc 26 0 c := by rw [dzr 26 (by decide), e2o 26 1 (by omega), (yc c hc).2, u3n (by decide), u3n (by decide)]
        rw [w5, w6]
        exact z4 c hc
      · rw [dzr 24 (by decide), e2o 24 1 (by omega), y24 4 (by decide), u3n (by decide), u3n (by decide), q3]
      · exact CS_w (CS_d (CS_cp cps cse) (fun r hr => by rw [dzr r (by omega)])) b46
      · rw [dzr 29 (by decide), e2o 29 0 (by omega), f1 29 0 (by omega), u3n (by decide), u3s]
        rfl
      · rw [kb.2 4 (by decide), ku.2.2.2]
        rfl
      · rw [dzr 27 (by decide), e2o 27 0 (by omega), f1 27 0 (by omega), u3s, kb.2 11 (by decide), r11]
      · rw [dz1 39 (by decide) (by decide) (by decide) (by decide) (by decide) (by decide) (by decide), k39', e2o 39 0 (by omega), e1o 39 0 (by omega) (by decide) (by decide), kx.1 39 0 (by omega) (by decide) (by decide) (by decide), hc3]
      · rw [dz1 39 (by decide) (by decide) (by decide) (by decide) (by decide) (by decide) (by decide), k39]
        rfl
      · rw [b25]
        rfl
      · have e60 : dz 60 0 s = 0 := by
          match s, hs with
          | 0, _ => exact b60
          | 1, _ => exact b61
        rw [dz1 43 (by decide) (by decide) (by decide) (by decide) (by decide) (by decide) (by decide), k43 s hs, e60]
        exact ⟨rfl, .inl rfl⟩
    · rw [kb.2 4 (by decide), ku.2.2.2]
    · rw [dz1 104 (by decide) (by decide) (by decide) (by decide) (by decide) (by decide) (by decide)]
      exact funext fun j => kk 104 j (by omega) (by decide) (by decide) (by decide) (by decide) (by decide) (by decide)
  · rw [ec] at ec'
    have : 0 = dc' 28 0 5 := by
      have := congrArg (fun t => match t with | some (.inl (some (.inl (.inl v))), _) => v | _ => 0) ec'
      exact this
    rw [pe.2.1] at this
    exact absurd this.symm pe.1
end PAR
