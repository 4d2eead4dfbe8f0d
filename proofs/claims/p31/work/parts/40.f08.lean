/-! THE LAW'S OWN MEMORY, 8: a plan's wishes -/
/-- the queues are as they were -/
def UQ (u u' : Nat → Int32) : Prop := ∀ b, b < 4 → u' (5 * b + 0) = u (5 * b + 0) ∧ ∀ j, j < 40 → u' (100 + 40 * b + j) = u (100 + 40 * b + j)
theorem UQ.rf (u : Nat → Int32) : UQ u u := fun _ _ => ⟨rfl, fun _ _ => rfl⟩
theorem UQ.tr {u u' u'' : Nat → Int32} (h : UQ u u') (h' : UQ u' u'') : UQ u u'' := fun b hb => ⟨(h' b hb).1.trans (h b hb).1, fun j hj => ((h' b hb).2 j hj).trans ((h b hb).2 j hj)⟩
theorem UQ.u1 {u u' : Nat → Int32} {b k : Nat} {v : Int32} (h : UQ u u') (hb : b < 4) (h0 : 0 < k) (hk : k < 5) : UQ u (ev_u1 u' (5 * b + k) v) := fun b' hb' => ⟨by rw [u1n (by omega)]; exact (h b' hb').1, fun j hj => by rw [u1n (by omega)]; exact (h b' hb').2 j hj⟩
theorem UQ.QL {u u' : Nat → Int32} (h : UQ u u') {b : Nat} {l : List Nat} (hb : b < 4) (hl : QL u b l) : QL u' b l := ⟨(h b hb).1.trans hl.1, hl.2.1, fun j q hj => ((h b hb).2 j (by have := (List.getElem?_eq_some_iff.mp hj).1; have := hl.2.1; omega)).trans (hl.2.2 j q hj)⟩
section LM8
variable {n : Nat} {lk : Nat → Nat → Nat → Bool} {d : Nat → Nat → Nat → Int32} {wn : Nat} {tt : Nat → Nat} {e : Nat → Nat → Nat → Int32} {q : Nat → Nat → Nat → Nat} {i : Nat} {t w u : Nat → Int32} {P : ev_O × ev_M → Prop}
theorem lm_wishes (hq : LQ q i) {B R C : Nat} (hB : t 0 = Int32.ofNat B) (h4 : B ≤ 4) (hR : t 1 = Int32.ofNat R) (h1R : 1 ≤ R) (h16 : R ≤ 16) (h40 : C ≤ 40) (h2 : ms_rg (w 2) 0 8) (hd : ∀ b, b < 4 → ms_small (w (19 + 9 * b + 0))) (hr : QR w u C) (h : LV e i t w u)
    (kk : ∀ e' u', LV e' i t (ms_fs 6 w (fun b => Int32.ofNat (ms_wi t w C R b)) B) u' → LF e e' i → UQ u u' → (∀ b, b < B → u' (5 * b + 1) = Int32.ofNat (ms_wk t w R b)) → ER (271, 302, [ev_R 200 i, ev_I (Int32.ofNat 0)], [], 0, 0) (n, lk, d, wn, tt, e', q) P) : ER (271, 248, [ev_R 200 i, ev_I (Int32.ofNat 0)], [], 0, 0) (n, lk, d, wn, tt, e, q) P := by
  have loop : ∀ j b, b + j = B → ∀ e' u', LV e' i t (ms_fs 6 w (fun b => Int32.ofNat (ms_wi t w C R b)) b) u' → LF e e' i → UQ u u' → (∀ b', b' < b → u' (5 * b' + 1) = Int32.ofNat (ms_wk t w R b')) → ER (271, 248, [ev_R 200 i, ev_I (Int32.ofNat b)], [], 0, 0) (n, lk, d, wn, tt, e', q) P := by
    intro j
    induction j with
    | zero =>
      intro b hb e' u' g1 g2 g3 g4
      have hbB : b = B := by omega
      subst hbB
      have c0 : e' 200 i 0 = Int32.ofNat b := (g1 _ _ _ _ _ (la_f (k := 0) (by omega))).trans hB
      refine ER_bk ?_
      rw [bk_271_248, c0, if_neg (fun z => by have := (ni_lt (by omega) (by omega)).mp z; omega)]
      refine ER_bk ?_
      rw [bk_271_300]
      exact kk e' u' g1 g2 g3 g4
    | succ j ih =>
      intro b hb e' u' g1 g2 g3 g4
      have hb4 : b < 4 := by omega
      have hG : WG w (ms_fs 6 w (fun b => Int32.ofNat (ms_wi t w C R b)) b) := WG_f6 (WG_r w) (by omega)
      have c0 : e' 200 i 0 = Int32.ofNat B := (g1 _ _ _ _ _ (la_f (k := 0) (by omega))).trans hB
      have k16 := hq.1.2.2.2.2.2.2.2
      obtain ⟨k7, -⟩ := hq.2 b hb4
      have hwk : ms_wk t w R b < 16 := by
        unfold ms_wk
        rcases ms_weak_le t w b R with z | z <;> omega
      have ew := lm_weak (n := n) (lk := lk) (d := d) (wn := wn) (tt := tt) hq g1 hb4 hR h1R h16
      rw [hG.weak R, show ms_weak t w b R = ms_wk t w R b from rfl] at ew
      have p1 := g1.put2 (la_bx hb4 (k := 1) (by omega)) (v := Int32.ofNat (ms_wk t w R b))
      have q1 : UQ u (ev_u1 u' (5 * b + 1) (Int32.ofNat (ms_wk t w R b))) := g3.u1 hb4 (by omega) (by omega)
      obtain ⟨l, hs, hl⟩ := (hr.hi (w' := ms_fs 6 w (fun b => Int32.ofNat (ms_wi t w C R b)) b) (u' := u) (fun k hk => hG.hi (by omega)) (UQ.rf u)) b hb4
      have ei := lm_wish (n := n) (lk := lk) (d := d) (wn := wn) (tt := tt) hq p1 hb4 h40 hwk (u1s _ _ _) (q1.QL hb4 hl) hs (by rw [hG.lo (by omega)]; exact h2) (by rw [hG.b (x := 0) (by omega)]; exact hd b hb4)
      rw [hG.wish, show ms_wish t w C b (ms_wk t w R b) = ms_wi t w C R b from rfl] at ei
      have p2 := p1.put0 (la_bk hb4 (k := 6) (by omega)) (v := Int32.ofNat (ms_wi t w C R b))
      rw [ms_fsS (f := fun b => Int32.ofNat (ms_wi t w C R b)) (by omega)] at p2
      refine ER_bk ?_
      rw [bk_271_248, c0, if_pos ((ni_lt (by omega) (by omega)).mpr (by omega))]
      simp only [k16, ev_lq_s, ni_in (n := b) (N := 4) hb4 (by omega), ni_c (n := b) (by omega), cond_true, k7, ew, ev_bi, ei, ni_1]
      refine ih (b + 1) (by omega) _ _ p2 ((g2.put (la_bx hb4 (k := 1) (by omega))).put (la_bk hb4 (k := 6) (by omega))) q1 (fun b' hb' => ?_)
      by_cases c : b' = b
      · subst c
        exact u1s _ _ _
      · rw [u1n (by omega)]
        exact g4 b' (by omega)
  have h0 : ms_fs 6 w (fun b => Int32.ofNat (ms_wi t w C R b)) 0 = w := ms_fs0
  exact loop B 0 (by omega) e u (by rw [h0]; exact h) (LF.rf e i) (UQ.rf u) (fun b hb => by omega)
end LM8
