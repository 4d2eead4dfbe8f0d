/-! THE PROGRAM AGAINST THE REFERENCE, 47: bytes are appended -/
/-- the byte of x at a shift, as the reference takes it -/
def ms_bx (x s : Int32) : Int32 := ((x >>> (s &&& 31)).toInt8.toInt32).toInt8.toInt32
theorem by_cut (x : BitVec 32) (k : Nat) (hk : k ≤ 24) : (x >>> k).setWidth 8 = (x.sshiftRight k).setWidth 8 := by
  apply BitVec.eq_of_getLsbD_eq
  intro i hi
  rw [BitVec.getLsbD_setWidth, BitVec.getLsbD_setWidth, BitVec.getLsbD_ushiftRight, BitVec.getLsbD_sshiftRight]
  have h1 : ¬ 32 ≤ i := by omega
  have h2 : k + i < 32 := by omega
  simp [h1, h2]
theorem by_24 (x : Int32) : ((x.toUInt32 >>> ((24 : Int32).toUInt32 &&& Int32.toUInt32 31)).toInt32).toInt8 = (x >>> ((24 : Int32) &&& 31)).toInt8 := by
  rw [show ((24 : Int32).toUInt32 &&& Int32.toUInt32 31) = 24 from by decide, show ((24 : Int32) &&& 31) = 24 from by decide]
  apply Int8.toBitVec_inj.mp
  show ((x.toUInt32 >>> 24).toBitVec).signExtend 8 = ((x >>> 24).toBitVec).signExtend 8
  rw [UInt32.toBitVec_shiftRight, Int32.toBitVec_shiftRight, BitVec.signExtend_eq_setWidth_of_le _ (by decide), BitVec.signExtend_eq_setWidth_of_le _ (by decide)]
  exact by_cut x.toBitVec 24 (by decide)
theorem by_16 (x : Int32) : ((x.toUInt32 >>> ((16 : Int32).toUInt32 &&& Int32.toUInt32 31)).toInt32).toInt8 = (x >>> ((16 : Int32) &&& 31)).toInt8 := by
  rw [show ((16 : Int32).toUInt32 &&& Int32.toUInt32 31) = 16 from by decide, show ((16 : Int32) &&& 31) = 16 from by decide]
  apply Int8.toBitVec_inj.mp
  show ((x.toUInt32 >>> 16).toBitVec).signExtend 8 = ((x >>> 16).toBitVec).signExtend 8
  rw [UInt32.toBitVec_shiftRight, Int32.toBitVec_shiftRight, BitVec.signExtend_eq_setWidth_of_le _ (by decide), BitVec.signExtend_eq_setWidth_of_le _ (by decide)]
  exact by_cut x.toBitVec 16 (by decide)
theorem by_8 (x : Int32) : ((x.toUInt32 >>> ((8 : Int32).toUInt32 &&& Int32.toUInt32 31)).toInt32).toInt8 = (x >>> ((8 : Int32) &&& 31)).toInt8 := by
  rw [show ((8 : Int32).toUInt32 &&& Int32.toUInt32 31) = 8 from by decide, show ((8 : Int32) &&& 31) = 8 from by decide]
  apply Int8.toBitVec_inj.mp
  show ((x.toUInt32 >>> 8).toBitVec).signExtend 8 = ((x >>> 8).toBitVec).signExtend 8
  rw [UInt32.toBitVec_shiftRight, Int32.toBitVec_shiftRight, BitVec.signExtend_eq_setWidth_of_le _ (by decide), BitVec.signExtend_eq_setWidth_of_le _ (by decide)]
  exact by_cut x.toBitVec 8 (by decide)
theorem by_0 (x : Int32) : ((x.toUInt32 >>> ((0 : Int32).toUInt32 &&& Int32.toUInt32 31)).toInt32).toInt8 = (x >>> ((0 : Int32) &&& 31)).toInt8 := by
  rw [show ((0 : Int32).toUInt32 &&& Int32.toUInt32 31) = 0 from by decide, show ((0 : Int32) &&& 31) = 0 from by decide]
  apply Int8.toBitVec_inj.mp
  show ((x.toUInt32 >>> 0).toBitVec).signExtend 8 = ((x >>> 0).toBitVec).signExtend 8
  rw [UInt32.toBitVec_shiftRight, Int32.toBitVec_shiftRight, BitVec.signExtend_eq_setWidth_of_le _ (by decide), BitVec.signExtend_eq_setWidth_of_le _ (by decide)]
  exact by_cut x.toBitVec 0 (by decide)
theorem bx2 (x : Int8) : x.toInt ≤ 127 ∧ -128 ≤ x.toInt := by
  have h1 := Int8.le_toInt x
  have h2 := Int8.toInt_le x
  have h3 : Int8.maxValue.toInt = 127 := by decide
  have h4 : Int8.minValue.toInt = -128 := by decide
  omega
theorem ms_bx_rg (x s : Int32) : ms_rg (ms_bx x s) (-128) 127 := by
  unfold ms_bx ms_rg
  rw [Int8.toInt_toInt32]
  have := bx2 ((x >>> (s &&& 31)).toInt8.toInt32.toInt8)
  exact ⟨this.2, this.1⟩
def ms_wr (f : Nat → Int32) (L : Nat) (x : Int32) : Nat → Int32 := ev_u1 (ev_u1 (ev_u1 (ev_u1 f L (ms_bx x 24)) (L + 1) (ms_bx x 16)) (L + 2) (ms_bx x 8)) (L + 3) (ms_bx x 0)
theorem ms_wr_eq {f g : Nat → Int32} {L : Nat} {x : Int32} (h : ∀ k, k < L → f k = g k ∧ ms_rg (g k) (-128) 127) : ∀ k, k < L + 4 → ms_wr f L x k = ms_wr g L x k ∧ ms_rg (ms_wr g L x k) (-128) 127 := fun k hk => by
  unfold ms_wr
  by_cases e3 : k = L + 3
  · subst e3
    rw [u1s, u1s]
    exact ⟨rfl, ms_bx_rg x 0⟩
  · rw [u1n e3, u1n e3]
    by_cases e2 : k = L + 2
    · subst e2
      rw [u1s, u1s]
      exact ⟨rfl, ms_bx_rg x 8⟩
    · rw [u1n e2, u1n e2]
      by_cases e1 : k = L + 1
      · subst e1
        rw [u1s, u1s]
        exact ⟨rfl, ms_bx_rg x 16⟩
      · rw [u1n e1, u1n e1]
        by_cases e0 : k = L
        · subst e0
          rw [u1s, u1s]
          exact ⟨rfl, ms_bx_rg x 24⟩
        · rw [u1n e0, u1n e0]
          exact h k (by omega)
/-- a word is put into row R; its length lies at place k of Q -/
def PT (d d' : Nat → Nat → Nat → Int32) (R Q k L : Nat) (x : Int32) : Prop := (∀ r, r ≠ R → r ≠ Q → d' r = d r) ∧ (∀ j, j ≠ k → d' Q 0 j = d Q 0 j) ∧ d' Q 0 k = Int32.ofNat (L + 4) ∧ d' R 0 = ms_wr (d R 0) L x
section EC36
variable {n : Nat} {lk : Nat → Nat → Nat → Bool} {d : Nat → Nat → Nat → Int32} {o : ev_W}
theorem ec_put (hl : LK lk) {L : Nat} {x : Int32} (hL : d 29 0 1 = Int32.ofNat L) (h : L + 4 ≤ 600) : ∃ d', EV (18, 0, [ev_R 29 0, ev_I x], [], 0, 0) (n, lk, d, o) = some (.inl none, (n, lk, d', o)) ∧ PT d d' 30 29 1 L x := by
  have step : ∀ (d : Nat → Nat → Nat → Int32) (L : Nat) (s s' v : Int32), d 29 0 1 = Int32.ofNat L → L < 600 → ¬ s < 0 → s + -8 = s' → (((((x).toUInt32 >>> ((s).toUInt32 &&& Int32.toUInt32 31)).toInt32).toInt8.toInt32).toInt8.toInt32) = v → ∀ r, EV (18, 3, [ev_R 29 0, ev_I x, ev_I s'], [], 0, 0) (n, lk, ev_u3 (ev_u3 d 30 0 L v) 29 0 1 (Int32.ofNat (L + 1)), o) = some r → EV (18, 3, [ev_R 29 0, ev_I x, ev_I s], [], 0, 0) (n, lk, d, o) = some r := by
    intro d L s s' v hL h hs hs' hv r hr
    refine EV_bk (k := 400) ?_
    rw [bk_18_3, if_neg hs, hL, if_pos (show Int32.ofNat L < 600 from (ni_lt (b := 600) (by omega) (by omega)).mpr h), hl 29 0 0 rfl (by decide) (by decide), cond_true]
    simp only [ni_in (n := L) (N := 600) (by omega) (by omega), ni_c (n := L) (by omega), cond_true, hs', hv, ni_1]
    exact hr
  refine ⟨ev_u3 (ev_u3 (ev_u3 (ev_u3 (ev_u3 (ev_u3 (ev_u3 (ev_u3 d 30 0 L (ms_bx x 24)) 29 0 1 (Int32.ofNat (L + 1))) 30 0 (L + 1) (ms_bx x 16)) 29 0 1 (Int32.ofNat (L + 1 + 1))) 30 0 (L + 2) (ms_bx x 8)) 29 0 1 (Int32.ofNat (L + 2 + 1))) 30 0 (L + 3) (ms_bx x 0)) 29 0 1 (Int32.ofNat (L + 3 + 1)), ?_, fun r h1 h2 => ?_, fun j hj => ?_, u3s, ?_⟩
  · refine EV_bk (k := 400) ?_
    rw [bk_18_0]
    refine step d L 24 16 (ms_bx x 24) hL (by omega) (by decide) (by decide) (by rw [by_24]; rfl) _ ?_
    refine step _ (L + 1) 16 8 (ms_bx x 16) u3s (by omega) (by decide) (by decide) (by rw [by_16]; rfl) _ ?_
    refine step _ (L + 2) 8 0 (ms_bx x 8) u3s (by omega) (by decide) (by decide) (by rw [by_8]; rfl) _ ?_
    refine step _ (L + 3) 0 (-8) (ms_bx x 0) u3s (by omega) (by decide) (by decide) (by rw [by_0]; rfl) _ ?_
    refine EV_bk (k := 400) ?_
    rw [bk_18_3, if_pos (by decide)]
  · rw [u3n h2, u3n h1, u3n h2, u3n h1, u3n h2, u3n h1, u3n h2, u3n h1]
  · rw [u3x hj, u3n (by decide), u3x hj, u3n (by decide), u3x hj, u3n (by decide), u3x hj, u3n (by decide)]
  · rw [u3n (by decide), u3r, u3n (by decide), u3r, u3n (by decide), u3r, u3n (by decide), u3r]
    rfl
theorem em_put (hl : LK lk) {L : Nat} {x : Int32} (hL : d 44 0 4 = Int32.ofNat L) (h : L + 4 ≤ 600) : ∃ d', EV (135, 0, [ev_R 44 0, ev_I x], [], 0, 0) (n, lk, d, o) = some (.inl none, (n, lk, d', o)) ∧ PT d d' 47 44 4 L x := by
  have step : ∀ (d : Nat → Nat → Nat → Int32) (L : Nat) (s s' v : Int32), d 44 0 4 = Int32.ofNat L → L < 600 → ¬ s < 0 → s + -8 = s' → ms_bx x s = v → ∀ r, EV (135, 3, [ev_R 44 0, ev_I x, ev_I s'], [], 0, 0) (n, lk, ev_u3 (ev_u3 d 47 0 L v) 44 0 4 (Int32.ofNat (L + 1)), o) = some r → EV (135, 3, [ev_R 44 0, ev_I x, ev_I s], [], 0, 0) (n, lk, d, o) = some r := by
    intro d L s s' v hL h hs hs' hv r hr
    unfold ms_bx at hv
    refine EV_bk (k := 400) ?_
    rw [bk_135_3, if_neg hs, hL, hl 44 0 3 rfl (by decide) (by decide), cond_true]
    simp only [ni_in (n := L) (N := 600) (by omega) (by omega), ni_c (n := L) (by omega), cond_true, hs', hv, ni_1]
    exact hr
  refine ⟨ev_u3 (ev_u3 (ev_u3 (ev_u3 (ev_u3 (ev_u3 (ev_u3 (ev_u3 d 47 0 L (ms_bx x 24)) 44 0 4 (Int32.ofNat (L + 1))) 47 0 (L + 1) (ms_bx x 16)) 44 0 4 (Int32.ofNat (L + 1 + 1))) 47 0 (L + 2) (ms_bx x 8)) 44 0 4 (Int32.ofNat (L + 2 + 1))) 47 0 (L + 3) (ms_bx x 0)) 44 0 4 (Int32.ofNat (L + 3 + 1)), ?_, fun r h1 h2 => ?_, fun j hj => ?_, u3s, ?_⟩
  · refine EV_bk (k := 400) ?_
    rw [bk_135_0]
    refine step d L 24 16 (ms_bx x 24) hL (by omega) (by decide) (by decide) rfl _ ?_
    refine step _ (L + 1) 16 8 (ms_bx x 16) u3s (by omega) (by decide) (by decide) rfl _ ?_
    refine step _ (L + 2) 8 0 (ms_bx x 8) u3s (by omega) (by decide) (by decide) rfl _ ?_
    refine step _ (L + 3) 0 (-8) (ms_bx x 0) u3s (by omega) (by decide) (by decide) rfl _ ?_
    refine EV_bk (k := 400) ?_
    rw [bk_135_3, if_pos (by decide)]
  · rw [u3n h2, u3n h1, u3n h2, u3n h1, u3n h2, u3n h1, u3n h2, u3n h1]
  · rw [u3x hj, u3n (by decide), u3x hj, u3n (by decide), u3x hj, u3n (by decide), u3x hj, u3n (by decide)]
  · rw [u3n (by decide), u3r, u3n (by decide), u3r, u3n (by decide), u3r, u3n (by decide), u3r]
    rfl
theorem op_append (hl : LK lk) (h : GI d) {x1 x2 x3 x4 x5 : Int32} : OPN (87, 0, [ev_R 27 0, ev_I x1, ev_I x2, ev_I x3, ev_I x4, ev_I x5], [], 0, 0) (134, 0, [ev_R 44 0, ev_I x1, ev_I x2, ev_I x3, ev_I x4, ev_I x5], [], 0, 0) lk d := by
  obtain ⟨B, R, T, g1, g2, g3, g4, ⟨L, hL, l1, l2, l3⟩, g6, g7, g8⟩ := id h
  have e20 : d 29 0 1 + 20 = Int32.ofNat (L + 20) := by rw [l1]; exact ni_a L 20
  have m20 : ∀ (d' : Nat → Nat → Nat → Int32), d' 44 0 4 = Int32.ofNat L → ev_u3 d' 44 0 0 0 44 0 4 + 20 = Int32.ofNat (L + 20) := fun d' h' => by rw [u3x (by decide), h']; exact ni_a L 20
  by_cases z : L + 20 ≤ 600
  · have z' : Int32.ofNat (L + 20) ≤ 600 := (ni_le (b := 600) (by omega) (by omega)).mpr z
    intro n o hn
    obtain ⟨a1, p1, ⟨q1, s1, t1, u1⟩⟩ := ec_put (n := n) (o := o) (x := x1) hl l1 (by omega)
    obtain ⟨a2, p2, ⟨q2, s2, t2, u2⟩⟩ := ec_put (n := n) (o := o) (d := a1) (x := x2) hl t1 (by omega)
    obtain ⟨a3, p3, ⟨q3, s3, t3, u3⟩⟩ := ec_put (n := n) (o := o) (d := a2) (x := x3) hl t2 (by omega)
    obtain ⟨a4, p4, ⟨q4, s4, t4, u4⟩⟩ := ec_put (n := n) (o := o) (d := a3) (x := x4) hl t3 (by omega)
    obtain ⟨a5, p5, ⟨q5, s5, t5, u5⟩⟩ := ec_put (n := n) (o := o) (d := a4) (x := x5) hl t4 (by omega)
    have fa : ∀ r, r ≠ 30 → r ≠ 29 → a5 r = d r := fun r h1 h2 => by rw [q5 r h1 h2, q4 r h1 h2, q3 r h1 h2, q2 r h1 h2, q1 r h1 h2]
    obtain ⟨b1, P1, ⟨Q1, S1, T1, U1⟩⟩ := em_put (n := n) (o := o) (d := ev_u3 a5 44 0 0 0) (x := x1) (L := L) hl (by rw [u3x (by decide), fa 44 (by decide) (by decide), l2]) (by omega)
    obtain ⟨b2, P2, ⟨Q2, S2, T2, U2⟩⟩ := em_put (n := n) (o := o) (d := b1) (x := x2) hl T1 (by omega)
    obtain ⟨b3, P3, ⟨Q3, S3, T3, U3⟩⟩ := em_put (n := n) (o := o) (d := b2) (x := x3) hl T2 (by omega)
    obtain ⟨b4, P4, ⟨Q4, S4, T4, U4⟩⟩ := em_put (n := n) (o := o) (d := b3) (x := x4) hl T3 (by omega)
    obtain ⟨b5, P5, ⟨Q5, S5, T5, U5⟩⟩ := em_put (n := n) (o := o) (d := b4) (x := x5) hl T4 (by omega)
    have fb : ∀ r, r ≠ 47 → r ≠ 44 → b5 r = a5 r := fun r h1 h2 => by rw [Q5 r h1 h2, Q4 r h1 h2, Q3 r h1 h2, Q2 r h1 h2, Q1 r h1 h2, u3n h2]
    have fd : ∀ r, r ≠ 29 → r ≠ 30 → r ≠ 44 → r ≠ 47 → b5 r = d r := fun r h1 h2 h3 h4 => by rw [fb r h4 h3, fa r h2 h1]
    have f44 : ∀ k, k ≠ 0 → k ≠ 4 → b5 44 0 k = d 44 0 k := fun k h1 h2 => by rw [S5 k h2, S4 k h2, S3 k h2, S2 k h2, S1 k h2, u3x h1, fa 44 (by decide) (by decide)]
    refine ⟨Int32.ofNat (L + 20), a5, b5, ⟨fa 103 (by decide) (by decide), fa 104 (by decide) (by decide)⟩, ⟨fd 103 (by decide) (by decide) (by decide) (by decide), fd 104 (by decide) (by decide) (by decide) (by decide)⟩, ?_, ?_, ?_⟩
    · have e45 : b5 45 = d 45 := fd 45 (by decide) (by decide) (by decide) (by decide)
      have e46 : b5 46 = d 46 := fd 46 (by decide) (by decide) (by decide) (by decide)
      have ea : ∀ r, r < 29 → b5 r = d r := fun r h1 => fd r (by omega) (by omega) (by omega) (by omega)
      refine ⟨B, R, T, by rw [e45]; exact g1, by rw [e45]; exact CL_d g2 (by rw [ea 24 (by decide)]) (by rw [ea 25 (by decide)]) (by rw [ea 26 (by decide)]), by rw [ea 24 (by decide)]; exact g3, ?_, ?_, ?_, ?_, ?_⟩
      · obtain ⟨C, τ, hτ, g⟩ := g4
        exact ⟨C, τ, hτ, by rw [e46]; exact GS_d g (fun r hr => by rw [ea r (by omega)])⟩
      · refine ⟨L + 20, z, ?_, ?_, ?_⟩
        · rw [fb 29 (by decide) (by decide), t5]
        · rw [T5]
        · have m47 : b5 47 0 = ms_wr (ms_wr (ms_wr (ms_wr (ms_wr (d 47 0) L x1) (L + 4) x2) (L + 4 + 4) x3) (L + 4 + 4 + 4) x4) (L + 4 + 4 + 4 + 4) x5 := by
            rw [U5, U4, U3, U2, U1, u3n (by decide), fa 47 (by decide) (by decide)]
          have c30 : b5 30 0 = ms_wr (ms_wr (ms_wr (ms_wr (ms_wr (d 30 0) L x1) (L + 4) x2) (L + 4 + 4) x3) (L + 4 + 4 + 4) x4) (L + 4 + 4 + 4 + 4) x5 := by
            rw [fb 30 (by decide) (by decide), u5, u4, u3, u2, u1]
          rw [m47, c30]
          exact ms_wr_eq (ms_wr_eq (ms_wr_eq (ms_wr_eq (ms_wr_eq l3))))
      · rw [ea 27 (by decide), f44 11 (by decide) (by decide)]
        exact g6
      · exact GH_d g7 (fun r i hr _ _ => by rw [ea r (by omega)]) (by rw [fd 39 (by decide) (by decide) (by decide) (by decide)]) (f44 25 (by decide) (by decide)) (by rw [fd 58 (by decide) (by decide) (by decide) (by decide)])
      · exact GN_d g8 (fun r i hr _ _ => by rw [ea r (by omega)]) (by rw [fd 43 (by decide) (by decide) (by decide) (by decide)]) (by rw [fd 60 (by decide) (by decide) (by decide) (by decide)]) (by rw [fd 59 (by decide) (by decide) (by decide) (by decide)])
    · refine EV_bk (k := 400) ?_
      rw [bk_87_0, hl 27 0 1 rfl (by decide) (by decide), cond_true, e20, if_pos z', cond_true, p1]
      simp only [ev_bv, hl 27 0 1 rfl (by decide) (by decide), cond_true]
      rw [p2]
      simp only [hl 27 0 1 rfl (by decide) (by decide), cond_true]
      rw [p3]
      simp only [hl 27 0 1 rfl (by decide) (by decide), cond_true]
      rw [p4]
      simp only [hl 27 0 1 rfl (by decide) (by decide), cond_true]
      rw [p5]
      simp only [hl 27 0 1 rfl (by decide) (by decide), cond_true]
      rw [t5]
    · refine EV_bk (k := 400) ?_
      rw [bk_134_0, m20 a5 (by rw [fa 44 (by decide) (by decide), l2]), if_pos z', P1]
      simp only [ev_bv]
      rw [P2]
      simp only []
      rw [P3]
      simp only []
      rw [P4]
      simp only []
      rw [P5]
      simp only []
      rw [T5]
  · have z' : ¬ Int32.ofNat (L + 20) ≤ 600 := fun v => z ((ni_le (b := 600) (by omega) (by omega)).mp v)
    refine OPN_ok (v := -1) h (GF_r d) (GF_thrown (v := 0)) (fun n o hn => ?_) (fun n o => ?_)
    · refine EV_bk (k := 400) ?_
      rw [bk_87_0, hl 27 0 1 rfl (by decide) (by decide), cond_true, e20, if_neg z']
    · refine EV_bk (k := 400) ?_
      rw [bk_134_0, m20 d l2, if_neg z']
end EC36
