/-! THE LAW'S OWN MEMORY, 22: a Memory is made like another -/
/-- the first k banks -/
def DBs (k r δ p : Nat) : Prop := ∃ b, b < k ∧ DB b r δ p
section LM22
variable {n : Nat} {lk : Nat → Nat → Nat → Bool} {d : Nat → Nat → Nat → Int32} {wn : Nat} {tt : Nat → Nat} {e : Nat → Nat → Nat → Int32} {q : Nat → Nat → Nat → Nat} {i j : Nat} {t u w : Nat → Int32} {P : ev_O × ev_M → Prop}
theorem LF_CP {e' : Nat → Nat → Nat → Int32} {D : Nat → Nat → Nat → Prop} (h : CPr e e' i j D) (hD : ∀ r δ p, D r δ p → 200 ≤ r ∧ r ≤ 206) : LF e e' i := fun r x p c => h.2 r x p fun δ a b z => by
  obtain ⟨h1, h2⟩ := hD r δ p z
  exact c ⟨by omega, by omega, h1, h2⟩
theorem bm_banks (hq : LQ q i) (hq' : LQ q j) (ha : i + 45 ≤ j ∨ j + 45 ≤ i) : ∀ m b, b + m = 4 → ∀ e', CPr e e' i j (fun r δ p => DM r δ p ∨ DBs b r δ p) →
    ∃ e'', EV (261, 179, [ev_R 200 i, ev_R 200 j, ev_I (Int32.ofNat b)], [], 0, 0) (n, lk, d, wn, tt, e', q) = some (.inl (some (ev_R 200 i)), (n, lk, d, wn, tt, e'', q)) ∧ CPr e e'' i j (fun r δ p => DM r δ p ∨ DBs 4 r δ p) := by
  intro m
  induction m with
  | zero =>
    intro b hb e' h
    have hb4 : b = 4 := by omega
    subst hb4
    refine ⟨e', EV_bk (k := 400) ?_, h⟩
    rw [bk_261_179, if_neg (by decide)]
  | succ m ih =>
    intro b hb e' h
    obtain ⟨e1, x1, x2⟩ := bk_be (n := n) (lk := lk) (d := d) (wn := wn) (tt := tt) hq hq' ha (b := b) (by omega) h
    obtain ⟨e2, y1, y2⟩ := ih (b + 1) (by omega) e1 (x2.cg fun r δ p => by
      constructor
      · rintro ((z | ⟨x, hx, z⟩) | z)
        · exact .inl z
        · exact .inr ⟨x, by omega, z⟩
        · exact .inr ⟨b, by omega, z⟩
      · rintro (z | ⟨x, hx, z⟩)
        · exact .inl (.inl z)
        · by_cases c : x = b
          · subst c
            exact .inr z
          · exact .inl (.inr ⟨x, by omega, z⟩))
    refine ⟨e2, EV_bk (k := 400) ?_, y2⟩
    obtain ⟨k7, -⟩ := hq.2 b (by omega)
    obtain ⟨k7', -⟩ := hq'.2 b (by omega)
    rw [bk_261_179, if_pos (show Int32.ofNat b < 4 from (ni_lt (b := 4) (by omega) (by omega)).mpr (by omega))]
    simp only [hq.1.2.2.2.2.2.2.2, hq'.1.2.2.2.2.2.2.2, ev_lq_s, ni_in (n := b) (N := 4) (by omega) (by omega), ni_c (n := b) (by omega), cond_true, k7, k7', x1, ev_bv, ni_1]
    exact y1
theorem bm_be (hq : LQ q i) (hq' : LQ q j) (ha : i + 45 ≤ j ∨ j + 45 ≤ i) (h8 : ev_ok 2 (e 200 j 8) = true) :
    ∃ e', EV (261, 0, [ev_R 200 i, ev_R 200 j], [], 0, 0) (n, lk, d, wn, tt, e, q) = some (.inl (some (ev_R 200 i)), (n, lk, d, wn, tt, e', q)) ∧ CPr e e' i j (fun r δ p => DM r δ p ∨ DBs 4 r δ p) := by
  obtain ⟨m9, m10, m11, m12, m13, m14, m15, m16⟩ := hq.1
  obtain ⟨k9, k10, k11, k12, k13, k14, k15, k16⟩ := hq'.1
  have hX : i = i + 0 := by omega
  have hY : j = j + 0 := by omega
  have hδ : 0 < 45 := by omega
  have r1 := bk_261_0 EV i j n lk d wn tt e q
  have g1 := ((((CPr.rf e i j).f0 200 0).f1 ha hX hY hδ).f1 ha hX hY hδ).f1 ha hX hY hδ
  simp only [Nat.zero_add, Nat.reduceAdd] at g1
  generalize ev_u3 (ev_u3 (ev_u3 e 200 i 0 _) 200 i 1 _) 200 i 2 _ = e1 at g1 r1
  have g2 := ((g1.f1 ha hX hY hδ).f1 ha hX hY hδ).f1 ha hX hY hδ
  simp only [Nat.reduceAdd] at g2
  have r2 := bk_261_24 EV i j n lk d wn tt e1 q
  generalize ev_u3 (ev_u3 (ev_u3 e1 200 i 3 _) 200 i 4 _) 200 i 5 _ = e2 at g2 r2
  have g3a := (g2.f1 ha hX hY hδ).f1 ha hX hY hδ
  simp only [Nat.reduceAdd] at g3a
  have g3 := g3a.f1 ha hX hY hδ
  simp only [Nat.reduceAdd] at g3
  have r3 := bk_261_48 EV i j n lk d wn tt e2 q
  have o3 : ev_ok 2 ((ev_u3 (ev_u3 e2 200 i 6 (e2 200 j 6)) 200 i 7 ((ev_u3 e2 200 i 6 (e2 200 j 6)) 200 j 7)) 200 j 8) = true := by
    rw [show (ev_u3 (ev_u3 e2 200 i 6 (e2 200 j 6)) 200 i 7 ((ev_u3 e2 200 i 6 (e2 200 j 6)) 200 j 7)) 200 j 8 = e 200 j 8 from g3a.at ha (δ := 0) (by omega)]
    exact h8
  rw [o3, cond_true] at r3
  generalize ev_u3 (ev_u3 (ev_u3 e2 200 i 6 _) 200 i 7 _) 200 i 8 _ = e3 at g3 r3
  have g4 := g3.w3 ha (r := 202) (δ := 1) (N := 7) (X := i + 1) (Y := j + 1) rfl rfl (by omega)
  have r4 := bk_261_72 EV i j n lk d wn tt e3 q
  rw [k9, ev_lq_s, m9, ev_lq_s] at r4
  generalize ev_w3 e3 202 (i + 1) _ = e4 at g4 r4
  have g5 := g4.w3 ha (r := 203) (δ := 2) (N := 6) (X := i + 2) (Y := j + 2) rfl rfl (by omega)
  have r5 := bk_261_87 EV i j n lk d wn tt e4 q
  rw [k10, ev_lq_s, m10, ev_lq_s] at r5
  generalize ev_w3 e4 203 (i + 2) _ = e5 at g5 r5
  have g6 := (g5.g0 204 3 40).g1 (k := 0) (X := i + 3) (Y := j + 3) ha (by omega) (by omega) (by omega)
  have r6 := bk_261_102 EV i j n lk d wn tt e5 q
  rw [k11, ev_lq_s, m11, ev_lq_s] at r6
  generalize ev_w3 e5 204 (i + 3) _ = e6 at g6 r6
  have g7 := g6.g1 (k := 1) (X := i + 4) (Y := j + 4) ha (by omega) (by omega) (by omega)
  have r7 := bk_261_117 EV i j n lk d wn tt e6 q
  rw [k12, ev_lq_s, m12, ev_lq_s] at r7
  generalize ev_w3 e6 204 (i + 4) _ = e7 at g7 r7
  have g8 := g7.g1 (k := 2) (X := i + 5) (Y := j + 5) ha (by omega) (by omega) (by omega)
  have r8 := bk_261_132 EV i j n lk d wn tt e7 q
  rw [k13, ev_lq_s, m13, ev_lq_s] at r8
  generalize ev_w3 e7 204 (i + 5) _ = e8 at g8 r8
  have g9 := g8.g1 (k := 3) (X := i + 6) (Y := j + 6) ha (by omega) (by omega) (by omega)
  have r9 := bk_261_147 EV i j n lk d wn tt e8 q
  rw [k14, ev_lq_s, m14, ev_lq_s] at r9
  generalize ev_w3 e8 204 (i + 6) _ = e9 at g9 r9
  have g10 := g9.g1 (k := 4) (X := i + 7) (Y := j + 7) ha (by omega) (by omega) (by omega)
  have r10 := bk_261_162 EV i j n lk d wn tt e9 q
  rw [k15, ev_lq_s, m15, ev_lq_s] at r10
  generalize ev_w3 e9 204 (i + 7) _ = e10 at g10 r10
  have r11 := bk_261_177 EV i j n lk d wn tt e10 q
  obtain ⟨e', x1, x2⟩ := bm_banks (n := n) (lk := lk) (d := d) (wn := wn) (tt := tt) hq hq' ha 4 0 (by omega) e10 (g10.cg fun r δ p => by
    have hz : ¬ DBs 0 r δ p := fun z => by
      obtain ⟨b, hb, -⟩ := z
      omega
    simp only [DM, hz, or_false, false_or, or_assoc])
  refine ⟨e', ?_, x2⟩
  exact EV_bk (r1.trans (EV_bk (r2.trans (EV_bk (r3.trans (EV_bk (r4.trans (EV_bk (r5.trans (EV_bk (r6.trans (EV_bk (r7.trans (EV_bk (r8.trans (EV_bk (r9.trans (EV_bk (r10.trans (EV_bk (r11.trans x1)))))))))))))))))))))
theorem lm_be (hq : LQ q i) (hq' : LQ q j) (ha : i + 45 ≤ j ∨ j + 45 ≤ i) {B R C T τ : Nat} {t0 w0 u0 : Nat → Int32} (h0 : LV e i t0 w0 u0) (hM : LM e j t w B R C T τ) :
    ∃ e', EV (261, 0, [ev_R 200 i, ev_R 200 j], [], 0, 0) (n, lk, d, wn, tt, e, q) = some (.inl (some (ev_R 200 i)), (n, lk, d, wn, tt, e', q)) ∧ LM e' i t w B R C T τ ∧ LF e e' i := by
  obtain ⟨u, K, h, hI, hC, hr, hk, hBL, hHE⟩ := hM
  have h8 : ev_ok 2 (e 200 j 8) = true := by
    rw [show e 200 j 8 = w 7 from h _ _ _ _ _ la_trad]
    rcases hI.2.2.2.1.2.2.2.1 with z | z <;> rw [z] <;> rfl
  obtain ⟨e', x1, x2⟩ := bm_be (n := n) (lk := lk) (d := d) (wn := wn) (tt := tt) hq hq' ha h8
  refine ⟨e', x1, ⟨fun k => if k < 20 ∧ k % 5 ≠ 0 then u0 k else u k, K, fun r x p T' K' hL => ?_, hI, hC, hr.hi (fun _ _ => rfl) (fun b hb => ⟨?_, fun j hj => ?_⟩), hk, hBL, hHE⟩, LF_CP x2 fun r δ p z => ?_⟩
  · obtain ⟨δ, hδ, rfl, hL', hD⟩ := LA_shift (j := j) hL
    rcases hD with hD | ⟨rfl, hK, hK5, hD⟩
    · rw [x2.1 r δ p hδ hD, h _ _ _ _ _ hL']
      match T', hL with
      | 0, _ => rfl
      | 1, _ => rfl
      | T' + 2, hL =>
        show u K' = if _ then _ else _
        rw [if_neg]
        rintro ⟨z1, z2⟩
        unfold LA at hL
        unfold DM DB at hD
        rcases hL with y | y | y | ⟨y0, y⟩ | ⟨y0, y⟩ | ⟨y0, y⟩ | ⟨y0, y⟩ | ⟨y0, y⟩ <;> rcases hD with z | ⟨b', hb', z⟩ <;> omega
    · rw [x2.2 r _ p (fun δ' a b z => hD (by rw [show δ = δ' by omega]; exact z)), h0 _ _ _ _ _ hL]
      show u0 K' = if _ then _ else _
      rw [if_pos ⟨hK, hK5⟩]
  · show (if _ then _ else _) = _
    rw [if_neg (by omega)]
  · show (if _ then _ else _) = _
    rw [if_neg (by omega)]
  · unfold DM DBs DB at z
    rcases z with z | ⟨b', hb', z⟩ <;> omega
theorem LM.off {e' : Nat → Nat → Nat → Int32} {B R C T τ : Nat} (h : LM e j t w B R C T τ) (hf : LF e e' i) (ha : i + 45 ≤ j ∨ j + 45 ≤ i) : LM e' j t w B R C T τ := by
  obtain ⟨u, K, h, hh⟩ := h
  exact ⟨u, K, h.off fun r x p h1 h2 => hf r x p (by omega), hh⟩
end LM22
