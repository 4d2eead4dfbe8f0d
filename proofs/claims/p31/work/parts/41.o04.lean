/-! THE LAW AND THE PROGRAM, 4: bytes are appended -/
section OL4
variable {n : Nat} {lk : Nat → Nat → Nat → Bool} {d : Nat → Nat → Nat → Int32} {o : ev_W}
def ms_wr5 (f : Nat → Int32) (L : Nat) (x1 x2 x3 x4 x5 : Int32) : Nat → Int32 := ms_wr (ms_wr (ms_wr (ms_wr (ms_wr f L x1) (L + 4) x2) (L + 4 + 4) x3) (L + 4 + 4 + 4) x4) (L + 4 + 4 + 4 + 4) x5
theorem ol_append (hl : LK lk) (h : GI d) {L0 : Nat} (hL0 : d 44 0 4 = Int32.ofNat L0) (z : L0 + 20 ≤ 600) {x1 x2 x3 x4 x5 : Int32} : ∀ n o, 384 ≤ n → ∃ d1 d2, CR d1 d2 ∧ GI d2 ∧ (d2 103 = d 103 ∧ d2 104 = d 104) ∧ d2 44 0 4 = Int32.ofNat (L0 + 20) ∧ d2 47 0 = ms_wr5 (d 47 0) L0 x1 x2 x3 x4 x5 ∧ EV (87, 0, [ev_R 27 0, ev_I x1, ev_I x2, ev_I x3, ev_I x4, ev_I x5], [], 0, 0) (n, lk, d, o) = some (.inl (some (ev_I (Int32.ofNat (L0 + 20)))), (n, lk, d1, o)) ∧ EV (134, 0, [ev_R 44 0, ev_I x1, ev_I x2, ev_I x3, ev_I x4, ev_I x5], [], 0, 0) (n, lk, d1, o) = some (.inl (some (ev_I (Int32.ofNat (L0 + 20)))), (n, lk, d2, o)) := by
  obtain ⟨B, R, T, g1, g2, g3, g4, ⟨L, hL, l1, l2, l3⟩, g6, g7, g8⟩ := id h
  have eL : L0 = L := (ni_eq (by omega) (by omega)).mp (hL0.symm.trans l2)
  subst eL
  have e20 : d 29 0 1 + 20 = Int32.ofNat (L0 + 20) := by rw [l1]; exact ni_a L0 20
  have m20 : ∀ (d' : Nat → Nat → Nat → Int32), d' 44 0 4 = Int32.ofNat L0 → ev_u3 d' 44 0 0 0 44 0 4 + 20 = Int32.ofNat (L0 + 20) := fun d' h' => by rw [u3x (by decide), h']; exact ni_a L0 20
  have z' : Int32.ofNat (L0 + 20) ≤ 600 := (ni_le (b := 600) (by omega) (by omega)).mpr z
  intro n o hn
  obtain ⟨a1, p1, ⟨q1, s1, t1, u1⟩⟩ := ec_put (n := n) (o := o) (x := x1) (L := L0) hl l1 (by omega)
  obtain ⟨a2, p2, ⟨q2, s2, t2, u2⟩⟩ := ec_put (n := n) (o := o) (d := a1) (x := x2) hl t1 (by omega)
  obtain ⟨a3, p3, ⟨q3, s3, t3, u3⟩⟩ := ec_put (n := n) (o := o) (d := a2) (x := x3) hl t2 (by omega)
  obtain ⟨a4, p4, ⟨q4, s4, t4, u4⟩⟩ := ec_put (n := n) (o := o) (d := a3) (x := x4) hl t3 (by omega)
  obtain ⟨a5, p5, ⟨q5, s5, t5, u5⟩⟩ := ec_put (n := n) (o := o) (d := a4) (x := x5) hl t4 (by omega)
  have fa : ∀ r, r ≠ 30 → r ≠ 29 → a5 r = d r := fun r h1 h2 => by rw [q5 r h1 h2, q4 r h1 h2, q3 r h1 h2, q2 r h1 h2, q1 r h1 h2]
  obtain ⟨b1, P1, ⟨Q1, S1, T1, U1⟩⟩ := em_put (n := n) (o := o) (d := ev_u3 a5 44 0 0 0) (x := x1) (L := L0) hl (by rw [u3x (by decide), fa 44 (by decide) (by decide), l2]) (by omega)
  obtain ⟨b2, P2, ⟨Q2, S2, T2, U2⟩⟩ := em_put (n := n) (o := o) (d := b1) (x := x2) hl T1 (by omega)
  obtain ⟨b3, P3, ⟨Q3, S3, T3, U3⟩⟩ := em_put (n := n) (o := o) (d := b2) (x := x3) hl T2 (by omega)
  obtain ⟨b4, P4, ⟨Q4, S4, T4, U4⟩⟩ := em_put (n := n) (o := o) (d := b3) (x := x4) hl T3 (by omega)
  obtain ⟨b5, P5, ⟨Q5, S5, T5, U5⟩⟩ := em_put (n := n) (o := o) (d := b4) (x := x5) hl T4 (by omega)
  have fb : ∀ r, r ≠ 47 → r ≠ 44 → b5 r = a5 r := fun r h1 h2 => by rw [Q5 r h1 h2, Q4 r h1 h2, Q3 r h1 h2, Q2 r h1 h2, Q1 r h1 h2, u3n h2]
  have fd : ∀ r, r ≠ 29 → r ≠ 30 → r ≠ 44 → r ≠ 47 → b5 r = d r := fun r h1 h2 h3 h4 => by rw [fb r h4 h3, fa r h2 h1]
  have f44 : ∀ k, k ≠ 0 → k ≠ 4 → b5 44 0 k = d 44 0 k := fun k h1 h2 => by rw [S5 k h2, S4 k h2, S3 k h2, S2 k h2, S1 k h2, u3x h1, fa 44 (by decide) (by decide)]
  refine ⟨a5, b5, fun r hr => fb r (by omega) (by omega), ?_, ⟨fd 103 (by decide) (by decide) (by decide) (by decide), fd 104 (by decide) (by decide) (by decide) (by decide)⟩, T5, ?_, ?_, ?_⟩
  · have e45 : b5 45 = d 45 := fd 45 (by decide) (by decide) (by decide) (by decide)
    have e46 : b5 46 = d 46 := fd 46 (by decide) (by decide) (by decide) (by decide)
    have ea : ∀ r, r < 29 → b5 r = d r := fun r h1 => fd r (by omega) (by omega) (by omega) (by omega)
    refine ⟨B, R, T, by rw [e45]; exact g1, by rw [e45]; exact CL_d g2 (by rw [ea 24 (by decide)]) (by rw [ea 25 (by decide)]) (by rw [ea 26 (by decide)]), by rw [ea 24 (by decide)]; exact g3, ?_, ?_, ?_, ?_, ?_⟩
    · obtain ⟨C, τ, hτ, g⟩ := g4
      exact ⟨C, τ, hτ, by rw [e46]; exact GS_d g (fun r hr => by rw [ea r (by omega)])⟩
    · refine ⟨L0 + 20, z, ?_, ?_, ?_⟩
      · rw [fb 29 (by decide) (by decide), t5]
      · rw [T5]
      · have m47 : b5 47 0 = ms_wr (ms_wr (ms_wr (ms_wr (ms_wr (d 47 0) L0 x1) (L0 + 4) x2) (L0 + 4 + 4) x3) (L0 + 4 + 4 + 4) x4) (L0 + 4 + 4 + 4 + 4) x5 := by
          rw [U5, U4, U3, U2, U1, u3n (by decide), fa 47 (by decide) (by decide)]
        have c30 : b5 30 0 = ms_wr (ms_wr (ms_wr (ms_wr (ms_wr (d 30 0) L0 x1) (L0 + 4) x2) (L0 + 4 + 4) x3) (L0 + 4 + 4 + 4) x4) (L0 + 4 + 4 + 4 + 4) x5 := by
          rw [fb 30 (by decide) (by decide), u5, u4, u3, u2, u1]
        rw [m47, c30]
        exact ms_wr_eq (ms_wr_eq (ms_wr_eq (ms_wr_eq (ms_wr_eq l3))))
    · rw [ea 27 (by decide), f44 11 (by decide) (by decide)]
      exact g6
    · exact GH_d g7 (fun r i hr _ _ => by rw [ea r (by omega)]) (by rw [fd 39 (by decide) (by decide) (by decide) (by decide)]) (f44 25 (by decide) (by decide)) (by rw [fd 58 (by decide) (by decide) (by decide) (by decide)])
    · exact GN_d g8 (fun r i hr _ _ => by rw [ea r (by omega)]) (by rw [fd 43 (by decide) (by decide) (by decide) (by decide)]) (by rw [fd 60 (by decide) (by decide) (by decide) (by decide)]) (by rw [fd 59 (by decide) (by decide) (by decide) (by decide)])
  · unfold ms_wr5
    rw [U5, U4, U3, U2, U1, u3n (by decide), fa 47 (by decide) (by decide)]
  · refine EV_bk (k := 400) ?_
    rw [bk_87_0, hl 27 0 1 rfl (by decide) (by decide), cond_true, e20, if_pos z', cond_true, p1]
    simp only [ev_bv, hl 27 0 1 rfl (by decide) (by decide), cond_true]
    rw [p2]
    simp only [hl 27 0 1 rfl (by decide) (by decide), cond_true]
    rw [p3]
    simp only [hl 27 0 1 rfl (by decide) (by decide), cond_true]
    rw [p4]
    simp only [hl 27 0 1 rfl (by decide) (by decide), cond_true]
    rw [p5]
    simp only [hl 27 0 1 rfl (by decide) (by decide), cond_true]
    rw [t5]
  · refine EV_bk (k := 400) ?_
    rw [bk_134_0, m20 a5 (by rw [fa 44 (by decide) (by decide), l2]), if_pos z', P1]
    simp only [ev_bv]
    rw [P2]
    simp only []
    rw [P3]
    simp only []
    rw [P4]
    simp only []
    rw [P5]
    simp only []
    rw [T5]
end OL4
