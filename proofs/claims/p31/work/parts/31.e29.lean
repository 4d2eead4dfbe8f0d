/-! THE PROGRAM AGAINST THE REFERENCE, 15: the ticker looks at all banks -/
/-- field x of the first B banks -/
def ms_fs (x : Nat) (w : Nat → Int32) (f : Nat → Int32) (B : Nat) : Nat → Int32 := fun j => if 19 ≤ j ∧ j < 19 + 9 * B ∧ (j - 19) % 9 = x then f ((j - 19) / 9) else w j
theorem ms_fs0 {x : Nat} {w f : Nat → Int32} : ms_fs x w f 0 = w := by
  funext j
  unfold ms_fs
  rw [if_neg (by omega)]
theorem ms_fs_at {x b B : Nat} {w f : Nat → Int32} (hx : x < 9) (hb : b < B) : ms_fs x w f B (19 + 9 * b + x) = f b := by
  unfold ms_fs
  rw [if_pos (by omega), show (19 + 9 * b + x - 19) / 9 = b by omega]
theorem ms_fs_n {x j B : Nat} {w f : Nat → Int32} (h : ∀ b, b < B → j ≠ 19 + 9 * b + x) : ms_fs x w f B j = w j := by
  unfold ms_fs
  rw [if_neg (fun z => h ((j - 19) / 9) (by omega) (by omega))]
theorem ms_fsS {x B : Nat} {w f : Nat → Int32} (hx : x < 9) : ev_u1 (ms_fs x w f B) (19 + 9 * B + x) (f B) = ms_fs x w f (B + 1) := by
  funext j
  by_cases e : j = 19 + 9 * B + x
  · subst e
    rw [u1s, ms_fs_at hx (by omega)]
  · rw [u1n e]
    unfold ms_fs
    by_cases c : 19 ≤ j ∧ j < 19 + 9 * B ∧ (j - 19) % 9 = x
    · rw [if_pos c, if_pos (by omega)]
    · rw [if_neg c, if_neg (by omega)]
theorem ms_fsu {x k B : Nat} {w f : Nat → Int32} {v : Int32} (hx : x < 9) (hk : k < B) : ev_u1 (ms_fs x w f B) (19 + 9 * k + x) v = ms_fs x w (fun b => if b = k then v else f b) B := by
  funext j
  by_cases e : j = 19 + 9 * k + x
  · subst e
    rw [u1s, ms_fs_at hx hk, if_pos rfl]
  · rw [u1n e]
    unfold ms_fs
    by_cases c : 19 ≤ j ∧ j < 19 + 9 * B ∧ (j - 19) % 9 = x
    · rw [if_pos c, if_pos c]
      exact (if_neg (by omega)).symm
    · rw [if_neg c, if_neg c]
theorem ms_fs_c {x B : Nat} {w f g : Nat → Int32} (h : ∀ b, b < B → f b = g b) : ms_fs x w f B = ms_fs x w g B := by
  funext j
  unfold ms_fs
  by_cases c : 19 ≤ j ∧ j < 19 + 9 * B ∧ (j - 19) % 9 = x
  · rw [if_pos c, if_pos c, h _ (by omega)]
  · rw [if_neg c, if_neg c]
theorem WG_f6 {w w' f : Nat → Int32} {B : Nat} (h : WG w w') (hB : B ≤ 4) : WG w (ms_fs 6 w' f B) := fun k hk => by
  rw [ms_fs_n (fun b hb => (hk b (by omega)).1)]
  exact h k hk
theorem WG_f7 {w w' f : Nat → Int32} {B : Nat} (h : WG w w') (hB : B ≤ 4) : WG w (ms_fs 7 w' f B) := fun k hk => by
  rw [ms_fs_n (fun b hb => (hk b (by omega)).2)]
  exact h k hk
/-- what a tick on state i leaves as it was -/
def FT (d d' : Nat → Nat → Nat → Int32) (i : Nat) : Prop := ∀ r j, (24 ≤ r ∧ (r < 33 ∨ 38 < r)) ∨ (r < 24 ∧ j ≠ i) → d' r j = d r j
theorem FT_t {d d' d'' : Nat → Nat → Nat → Int32} {i : Nat} (h : FT d d' i) (h' : FT d' d'' i) : FT d d'' i := fun r j z => (h' r j z).trans (h r j z)
theorem FT_r (d : Nat → Nat → Nat → Int32) (i : Nat) : FT d d i := fun _ _ _ => rfl
theorem FR_FT {d d' : Nat → Nat → Nat → Int32} {i : Nat} (h : FR d d' i) : FT d d' i := fun r j z => h r j (z.elim (fun a => .inl a.1) (fun a => .inr a.2))
theorem FL_FT {d d' : Nat → Nat → Nat → Int32} {i b : Nat} (h : FL d d' b) : FT d d' i := fun r j z => by rw [h.1 r (by omega)]
theorem FT_CL {d d' : Nat → Nat → Nat → Int32} {i : Nat} {t : Nat → Int32} {l : Nat} (h : FT d d' i) (hL : CL d l t) : CL d' l t := by
  exact CL_d hL (h 24 l (.inl (by omega))) (h 25 l (.inl (by omega))) (h 26 l (.inl (by omega)))
/-- what the ticker knows of a bank -/
def TKR (d : Nat → Nat → Nat → Int32) (t w : Nat → Int32) (C R b : Nat) : Prop :=
  d 34 0 b = Int32.ofNat (ms_wk t w R b) ∧ d 35 0 b = ms_rem t w b (ms_wk t w R b) ∧ d 36 0 b = ms_en (ms_wat w b C 0 (-1)) ∧ ∀ r, r < R → d 33 0 (16 * b + r) = ms_bound t w b r
section EC11
variable {n : Nat} {lk : Nat → Nat → Nat → Bool} {d : Nat → Nat → Nat → Int32} {o : ev_W}
theorem ec_looks (hl : LK lk) {i : Nat} (hi : i < 15) {t w : Nat → Int32} {C K R B : Nat} (hs : CS d i w C K) (hL : CL d 1 t) (hB : t 0 = Int32.ofNat B) (h4 : B ≤ 4) (hR : t 1 = Int32.ofNat R) (h1 : 1 ≤ R) (h16 : R ≤ 16) (hm : ∀ b, b < B → ms_rem t w b 0 < 1000000000) :
    ∃ d', (∀ r, EV (71, 24, [ev_R 32 0, ev_R 0 i, ev_I (Int32.ofNat B)], [], 0, 0) (n, lk, d', o) = some r → EV (71, 24, [ev_R 32 0, ev_R 0 i, ev_I 0], [], 0, 0) (n, lk, d, o) = some r) ∧ FT d d' i ∧
      CS d' i (ms_fs 6 w (fun b => Int32.ofNat (ms_wi t w C R b)) B) C K ∧ ∀ b, b < B → TKR d' t w C R b := by
  have loop : ∀ j b (d : Nat → Nat → Nat → Int32), b + j = B → CL d 1 t → CS d i (ms_fs 6 w (fun b => Int32.ofNat (ms_wi t w C R b)) b) C K → (∀ b', b' < b → TKR d t w C R b') →
      ∃ d', (∀ r, EV (71, 24, [ev_R 32 0, ev_R 0 i, ev_I (Int32.ofNat B)], [], 0, 0) (n, lk, d', o) = some r → EV (71, 24, [ev_R 32 0, ev_R 0 i, ev_I (Int32.ofNat b)], [], 0, 0) (n, lk, d, o) = some r) ∧ FT d d' i ∧
      CS d' i (ms_fs 6 w (fun b => Int32.ofNat (ms_wi t w C R b)) B) C K ∧ ∀ b, b < B → TKR d' t w C R b := by
    intro j
    induction j with
    | zero =>
      intro b d hb hL hs hk
      have e : b = B := by omega
      subst e
      exact ⟨d, fun r h => h, FT_r d i, hs, hk⟩
    | succ j ih =>
      intro b d hb hL hs hk
      have hlt : Int32.ofNat b < Int32.ofNat B := (ni_lt (by omega) (by omega)).mpr (by omega)
      have hb4 : b < 4 := by omega
      have hg : WG w (ms_fs 6 w (fun b => Int32.ofNat (ms_wi t w C R b)) b) := WG_f6 (WG_r w) (by omega)
      obtain ⟨d1, e1, f1, k34, k35, k36, k33⟩ := ec_lookAt (n := n) (o := o) hl hi hs hL hR h16 hb4 (by rw [hg.rem]; exact hm b (by omega))
      rw [hg.weak] at k34 k35
      have k35 := k35 h1
      rw [hg.rem] at k35
      rw [hg.wat] at k36
      have hs1 := CS_d hs (fun r hr => by rw [f1.1 r (by omega)] : ∀ r, r < 24 → d1 r i = d r i)
      have hw := ec_wishOf (n := n) (o := o) (t := t) (k := ms_weak t w b R) hl hi hs1 hb4 (by rw [hg.rem]; exact k35) (by rw [hg.wat]; exact k36)
      rw [hg.wish] at hw
      have c1 := CS_wish (k := b) (v := Int32.ofNat (ms_wi t w C R b)) hs1 hb4
      rw [ms_fsS (f := fun b => Int32.ofNat (ms_wi t w C R b)) (by omega)] at c1
      have fr : FR d1 (ev_u3 d1 9 i b (Int32.ofNat (ms_wi t w C R b))) i := FR_u3 (by decide)
      obtain ⟨d', g1, g2, g3, g4⟩ := ih (b + 1) (ev_u3 d1 9 i b (Int32.ofNat (ms_wi t w C R b))) (by omega) (FT_CL (FT_t (FL_FT f1) (FR_FT fr)) hL) c1 (fun b' hb' => by
        unfold TKR
        rw [fr 34 0 (.inl (by decide)), fr 35 0 (.inl (by decide)), fr 36 0 (.inl (by decide)), fr 33 0 (.inl (by decide))]
        by_cases z : b' = b
        · subst z
          exact ⟨k34, k35, k36, fun r hr => by rw [k33 r hr, hg.bound]⟩
        · obtain ⟨y1, y2, y3, y4⟩ := hk b' (by omega)
          obtain ⟨x1, x2, x3⟩ := f1.2.1 b' z
          exact ⟨x1.trans y1, x2.trans y2, x3.trans y3, fun r hr => (f1.2.2 _ (by omega)).trans (y4 r hr)⟩)
      refine ⟨d', fun r h => ?_, FT_t (FT_t (FL_FT f1) (FR_FT fr)) g2, g3, g4⟩
      have h := g1 r h
      refine EV_bk (k := 400) ?_
      rw [bk_71_24, hl 32 0 0 rfl (by decide) (by decide), cond_true, hL.1, hB, if_pos hlt, e1]
      simp only [ev_bv, hl 0 i 6 rfl hi (by decide), hl 3 i 5 rfl hi (by decide), cond_true]
      rw [hw]
      simp only [ev_bi, ni_in (n := b) (N := 4) (by omega) (by omega), ni_c (n := b) (by omega), cond_true, ni_1]
      exact h
  exact loop B 0 d (by omega) hL (by rw [ms_fs0]; exact hs) (fun b hb => absurd hb (Nat.not_lt_zero _))
end EC11
