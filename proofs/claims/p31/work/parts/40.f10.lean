/-! THE LAW'S OWN MEMORY, 10: a plan grants -/
theorem ct_bd (p : Nat → Bool) : ∀ n, ct_n p n ≤ n
  | 0 => Nat.le_refl _
  | n + 1 => by
    have := ct_bd p n
    unfold ct_n
    split <;> omega
section LM10
variable {n : Nat} {lk : Nat → Nat → Nat → Bool} {d : Nat → Nat → Nat → Int32} {wn : Nat} {tt : Nat → Nat} {e : Nat → Nat → Nat → Int32} {q : Nat → Nat → Nat → Nat} {i : Nat} {t w u : Nat → Int32} {P : ev_O × ev_M → Prop} {wk wi : Nat → Nat}
/-- what the banks of a plan know -/
def PK (t w v u : Nat → Int32) (wk wi : Nat → Nat) (B : Nat) : Prop := WG w v ∧ ∀ b, b < B → wk b < 16 ∧ wi b < 7 ∧ v (19 + 9 * b + 6) = Int32.ofNat (wi b) ∧ u (5 * b + 1) = Int32.ofNat (wk b) ∧ ms_small (ms_rem t w b (wk b)) ∧ ms_small (w (19 + 9 * b + 0))
theorem lm_ahead2 (hq : LQ q i) {v : Nat → Int32} {B : Nat} (h4 : B ≤ 4) (hp : PK t w v u wk wi B) (h : LV e i t v u) {b f : Nat} (hb : b < B) (hf : f < B) :
    EV (270, 0, [ev_R 200 i, ev_R 201 (i + 9 + 9 * b), ev_R 201 (i + 9 + 9 * f)], [], 0, 0) (n, lk, d, wn, tt, e, q) = some (.inl (some (ev_I (if ms_rank t w wk wi b < ms_rank t w wk wi f then 1 else 0))), (n, lk, d, wn, tt, e, q)) := by
  obtain ⟨hG, hp⟩ := hp
  obtain ⟨a1, a2, a3, a4, a5, a6⟩ := hp b hb
  obtain ⟨b1, b2, b3, b4, b5, b6⟩ := hp f hf
  have := lm_ahead (n := n) (lk := lk) (d := d) (wn := wn) (tt := tt) hq h (b := b) (f := f) (wk := wk) (wi := wi) (by omega) (by omega) a1 b1 a2 b2 a4 b4 a3 b3 (by rw [hG.rem]; exact a5) (by rw [hG.b (x := 0) (by omega)]; exact a6) (by rw [hG.rem]; exact b5) (by rw [hG.b (x := 0) (by omega)]; exact b6)
  rw [hG.rank, hG.rank] at this
  exact this
theorem lm_before (hq : LQ q i) {v : Nat → Int32} {B b : Nat} (hB : t 0 = Int32.ofNat B) (h4 : B ≤ 4) (hp : PK t w v u wk wi B) (h : LV e i t v u) (hb : b < B)
    (kk : ER (271, 398, [ev_R 200 i, ev_I (Int32.ofNat b), ev_R 201 (i + 9 + 9 * b), ev_I (Int32.ofNat (ct_n (ms_bf t w wk wi b) B)), ev_I (Int32.ofNat B)], [], 0, 0) (n, lk, d, wn, tt, e, q) P) :
    ER (271, 322, [ev_R 200 i, ev_I (Int32.ofNat b), ev_R 201 (i + 9 + 9 * b), ev_I (Int32.ofNat 0), ev_I (Int32.ofNat 0)], [], 0, 0) (n, lk, d, wn, tt, e, q) P := by
  have h0 : e 200 i 0 = Int32.ofNat B := (h _ _ _ _ _ (la_f (k := 0) (by omega))).trans hB
  have loop : ∀ j k, k + j = B → ER (271, 322, [ev_R 200 i, ev_I (Int32.ofNat b), ev_R 201 (i + 9 + 9 * b), ev_I (Int32.ofNat (ct_n (ms_bf t w wk wi b) k)), ev_I (Int32.ofNat k)], [], 0, 0) (n, lk, d, wn, tt, e, q) P := by
    intro j
    induction j with
    | zero =>
      intro k hk
      have hkB : k = B := by omega
      subst hkB
      refine ER_bk ?_
      rw [bk_271_322, h0, if_neg (fun z => Int32.lt_irrefl z)]
      exact kk
    | succ j ih =>
      intro k hk
      have ih := ih (k + 1) (by omega)
      have next : ∀ c, c = ct_n (ms_bf t w wk wi b) (k + 1) → ER (271, 392, [ev_R 200 i, ev_I (Int32.ofNat b), ev_R 201 (i + 9 + 9 * b), ev_I (Int32.ofNat c), ev_I (Int32.ofNat k)], [], 0, 0) (n, lk, d, wn, tt, e, q) P := fun c hc => by
        refine ER_bk ?_
        rw [bk_271_392, ni_1, hc]
        exact ih
      have hs : ct_n (ms_bf t w wk wi b) (k + 1) = if ms_bf t w wk wi b k = true then ct_n (ms_bf t w wk wi b) k + 1 else ct_n (ms_bf t w wk wi b) k := rfl
      have k16 := hq.1.2.2.2.2.2.2.2
      obtain ⟨k7, -⟩ := hq.2 k (by omega)
      obtain ⟨-, a2, a3, -⟩ := hp.2 k (by omega)
      have c6 : e 201 (i + 9 + 9 * k) 6 = Int32.ofNat (wi k) := (h _ _ _ _ _ (la_bk (by omega) (k := 6) (by omega))).trans a3
      refine ER_bk ?_
      rw [bk_271_322, h0, if_pos ((ni_lt (by omega) (by omega)).mpr (by omega))]
      by_cases eb : k = b
      · subst eb
        rw [if_pos rfl]
        refine next _ ?_
        rw [hs, if_neg]
        intro z
        have := (ms_bf_iff.mp z).2
        exact rk_ir this this
      · rw [if_neg (fun z => eb ((ni_eq (by omega) (by omega)).mp z))]
        simp only [k16, ev_lq_s, ni_in (n := k) (N := 4) (by omega) (by omega), ni_c (n := k) (by omega), cond_true, k7, c6, lm_refreshes a2, ev_bi, lm_ahead2 hq h4 hp h (b := k) (f := b) (by omega) hb, lm_ahead2 hq h4 hp h (b := b) (f := k) hb (by omega), ni_1]
        by_cases z1 : ms_rf (wi k)
        · rw [if_pos z1, if_neg (by decide)]
          by_cases z2 : ms_rank t w wk wi k < ms_rank t w wk wi b
          · rw [if_pos z2, if_neg (by decide)]
            exact next _ (by rw [hs, if_pos (ms_bf_iff.mpr ⟨z1, Or.inl z2⟩)])
          · rw [if_neg z2, if_pos rfl]
            by_cases z3 : ms_rank t w wk wi b < ms_rank t w wk wi k
            · rw [if_pos z3, if_neg (by decide)]
              exact next _ (by rw [hs, if_neg (fun z => (ms_bf_iff.mp z).2.elim z2 (fun z => z.1 z3))])
            · rw [if_neg z3, if_pos rfl]
              by_cases z4 : k < b
              · rw [if_pos ((ni_lt (by omega) (by omega)).mpr z4)]
                exact next _ (by rw [hs, if_pos (ms_bf_iff.mpr ⟨z1, Or.inr ⟨z3, z4⟩⟩)])
              · rw [if_neg (fun z => z4 ((ni_lt (by omega) (by omega)).mp z))]
                exact next _ (by rw [hs, if_neg (fun z => (ms_bf_iff.mp z).2.elim z2 (fun z => z4 z.2))])
        · rw [if_neg z1, if_pos rfl]
          exact next _ (by rw [hs, if_neg (fun z => z1 (ms_bf_iff.mp z).1)])
  exact loop B 0 (by omega)
/-- the vector while grants are written -/
def ms_wgb (t w : Nat → Int32) (wk wi : Nat → Nat) (B S b : Nat) : Nat → Int32 := ms_fs 7 (ms_fs 6 w (fun b => Int32.ofNat (wi b)) B) (fun b => ms_b01 (ms_gr t w wk wi B S b)) b
/-- whom bank b serves, where it touches -/
def ms_svx (t w : Nat → Int32) (wk wi : Nat → Nat) (C B S b : Nat) : Option Nat := if ms_rf (wi b) ∧ ms_gr t w wk wi B S b = true then none else ms_wat w b C 0 (-1)
def ms_tox (t w : Nat → Int32) (wk wi : Nat → Nat) (C B S b : Nat) : Int32 := if ms_rf (wi b) ∧ ms_gr t w wk wi B S b = true then Int32.ofNat (wk b) else (match ms_wat w b C 0 (-1) with
  | none => -1
  | some q => w (375 + 6 * q + 1))
theorem lm_grant (hq : LQ q i) {B S C b : Nat} (h4 : B ≤ 4) (hS : w 0 = Int32.ofNat S) (hS4 : S ≤ 4) (h40 : C ≤ 40) (hp : PK t w (ms_wgb t w wk wi B S b) u wk wi B) (hr : QR w u C) (h : LV e i t (ms_wgb t w wk wi B S b) u) (hb : b < B)
    (kk : ∀ e' u', LV e' i t (ms_wgb t w wk wi B S (b + 1)) u' → LF e e' i → UQ u u' → (∀ b', b' ≠ b → ∀ k, k < 4 → u' (5 * b' + k) = u (5 * b' + k)) → u' (5 * b + 1) = u (5 * b + 1) → u' (5 * b + 2) = ms_tox t w wk wi C B S b → u' (5 * b + 3) = ms_en (ms_svx t w wk wi C B S b) → ∀ x y, ER (271, 517, [ev_R 200 i, ev_I (Int32.ofNat b), ev_R 201 (i + 9 + 9 * b), ev_I x, ev_I y], [], 0, 0) (n, lk, d, wn, tt, e', q) P) :
    ER (271, 398, [ev_R 200 i, ev_I (Int32.ofNat b), ev_R 201 (i + 9 + 9 * b), ev_I (Int32.ofNat (ct_n (ms_bf t w wk wi b) B)), ev_I (Int32.ofNat B)], [], 0, 0) (n, lk, d, wn, tt, e, q) P := by
  have hb4 : b < 4 := by omega
  obtain ⟨hG, hpp⟩ := id hp
  obtain ⟨a1, a2, a3, a4, -, -⟩ := hpp b hb
  obtain ⟨g1, g2⟩ := ms_gr_bf (t := t) (w := w) (wk := wk) (wi := wi) (B := B) S
  have hS' : ms_wgb t w wk wi B S (b + 1) = ev_u1 (ms_wgb t w wk wi B S b) (19 + 9 * b + 7) (ms_b01 (ms_gr t w wk wi B S b)) := (ms_fsS (f := fun b => ms_b01 (ms_gr t w wk wi B S b)) (by omega)).symm
  have c6 : e 201 (i + 9 + 9 * b) 6 = Int32.ofNat (wi b) := (h _ _ _ _ _ (la_bk hb4 (k := 6) (by omega))).trans a3
  have c0 : e 202 (i + 1) 0 = Int32.ofNat S := (h _ _ _ _ _ (la_set (k := 0) (by omega))).trans ((hG.lo (by omega)).trans hS)
  obtain ⟨l, hs, hl⟩ := hr b hb4
  have hwat : ms_wat w b C 0 (-1) = l[0]? := SF.wat 0 hs
  have k19 := (hq.2 b hb4).2.2.2.2.2.2.2.1
  obtain ⟨k9, -, -, k12, -⟩ := hq.1
  have hct := ct_bd (ms_bf t w wk wi b) B
  -- the end of it
  have fin : ∀ z : Int32, (z = 0 ↔ ¬ (ms_rf (wi b) ∧ ms_gr t w wk wi B S b = true)) → ∀ x, ER (271, 425, [ev_R 200 i, ev_I (Int32.ofNat b), ev_R 201 (i + 9 + 9 * b), ev_I x, ev_I z], [], 0, 0) (n, lk, d, wn, tt, e, q) P := by
    intro z hz x
    have p1 := h.put0 (la_bk hb4 (k := 7) (by omega)) (v := ms_b01 (ms_gr t w wk wi B S b))
    rw [← hS'] at p1
    have q1 := (LF.rf e i).put (la_bk hb4 (k := 7) (by omega)) (v := ms_b01 (ms_gr t w wk wi B S b))
    -- granted
    have step1 : ER (271, 455, [ev_R 200 i, ev_I (Int32.ofNat b), ev_R 201 (i + 9 + 9 * b), ev_I x, ev_I z], [], 0, 0) (n, lk, d, wn, tt, ev_u3 e 201 (i + 9 + 9 * b) 7 (ms_b01 (ms_gr t w wk wi B S b)), q) P := by
      generalize ev_u3 e 201 (i + 9 + 9 * b) 7 (ms_b01 (ms_gr t w wk wi B S b)) = e1 at p1 q1 ⊢
      -- serves
      have p2 := p1.put2 (la_bx hb4 (k := 3) (by omega)) (v := ms_en (ms_svx t w wk wi C B S b))
      have q2 := q1.put (la_bx hb4 (k := 3) (by omega)) (v := ms_en (ms_svx t w wk wi C B S b))
      have step2 : ER (271, 481, [ev_R 200 i, ev_I (Int32.ofNat b), ev_R 201 (i + 9 + 9 * b), ev_I x, ev_I z], [], 0, 0) (n, lk, d, wn, tt, ev_u3 e1 201 (i + 9 + 9 * b) 11 (ms_en (ms_svx t w wk wi C B S b)), q) P := by
        have s11 : ev_u3 e1 201 (i + 9 + 9 * b) 11 (ms_en (ms_svx t w wk wi C B S b)) 201 (i + 9 + 9 * b) 11 = ms_en (ms_svx t w wk wi C B S b) := u3s
        have s9 : ev_u3 e1 201 (i + 9 + 9 * b) 11 (ms_en (ms_svx t w wk wi C B S b)) 201 (i + 9 + 9 * b) 9 = Int32.ofNat (wk b) := (p2 _ _ _ _ _ (la_bx hb4 (k := 1) (by omega))).trans ((u1n (by omega)).trans a4)
        have srow : ∀ p, p < 40 → ev_u3 e1 201 (i + 9 + 9 * b) 11 (ms_en (ms_svx t w wk wi C B S b)) 204 (i + 4) p = w (375 + 6 * p + 1) := fun p hp => (p2 _ _ _ _ _ (la_rq (x := 1) (by omega) hp)).trans (by show ms_wgb t w wk wi B S (b + 1) (375 + 6 * p + 1) = _; rw [hS', u1n (by omega)]; exact hG.hi (by omega))
        generalize ev_u3 e1 201 (i + 9 + 9 * b) 11 (ms_en (ms_svx t w wk wi C B S b)) = e2 at p2 q2 s11 s9 srow ⊢
        have p3 := p2.put2 (la_bx hb4 (k := 2) (by omega)) (v := ms_tox t w wk wi C B S b)
        have q3 := q2.put (la_bx hb4 (k := 2) (by omega)) (v := ms_tox t w wk wi C B S b)
        have last : ER (271, 517, [ev_R 200 i, ev_I (Int32.ofNat b), ev_R 201 (i + 9 + 9 * b), ev_I x, ev_I z], [], 0, 0) (n, lk, d, wn, tt, ev_u3 e2 201 (i + 9 + 9 * b) 10 (ms_tox t w wk wi C B S b), q) P := by
          refine kk _ _ p3 q3 (((UQ.rf u).u1 hb4 (by omega) (by omega)).u1 hb4 (by omega) (by omega)) (fun b' hne k hk => ?_) ?_ ?_ ?_ x z
          · rw [u1n (by omega), u1n (by omega)]
          · rw [u1n (by omega), u1n (by omega)]
          · exact u1s _ _ _
          · rw [u1n (by omega)]
            exact u1s _ _ _
        refine ER_bk ?_
        rw [bk_271_481, s11, s9]
        by_cases c : z = 0
        · have hF := hz.mp c
          rw [if_pos c]
          have e3 : ms_svx t w wk wi C B S b = l[0]? := by unfold ms_svx; rw [if_neg hF, hwat]
          have e4 : ms_tox t w wk wi C B S b = (match l[0]? with
            | none => -1
            | some q => w (375 + 6 * q + 1)) := by unfold ms_tox; rw [if_neg hF, hwat]
          rw [e3]
          cases hl0 : l[0]? with
          | none =>
            rw [hl0] at e4
            rw [e4] at last
            rw [if_pos (by decide)]
            exact last
          | some p0 =>
            rw [hl0] at e4
            rw [e4] at last
            have hm : p0 ∈ l := List.mem_of_getElem? hl0
            have hp0 := (hs.mem hm).1
            have hnn : ¬ (ms_en (some p0) < 0) := fun z => absurd ((ni_lt (a := p0) (b := 0) (by omega) (by omega)).mp z) (by omega)
            rw [if_neg hnn, k12, ev_lq_s, show ms_en (some p0) = Int32.ofNat p0 from rfl, ni_in (n := p0) (N := 40) (by omega) (by omega), ni_c (n := p0) (by omega), srow p0 (by omega)]
            exact last
        · have hF : ms_rf (wi b) ∧ ms_gr t w wk wi B S b = true := Decidable.not_not.mp (fun y => c (hz.mpr y))
          have e4 : ms_tox t w wk wi C B S b = Int32.ofNat (wk b) := by unfold ms_tox; rw [if_pos hF]
          rw [e4] at last
          rw [if_neg c]
          exact last
      have s8 : e1 201 (i + 9 + 9 * b) 8 = Int32.ofNat l.length := (p1 _ _ _ _ _ (la_bx hb4 (k := 0) (by omega))).trans hl.1
      have sq : ∀ q0 r, l = q0 :: r → e1 204 (i + 9 + 9 * b + 7) 0 = Int32.ofNat q0 := fun q0 r hh => (p1 _ _ _ _ _ (la_qu hb4 (p := 0) (by omega))).trans (by subst hh; exact hl.head)
      refine ER_bk ?_
      rw [bk_271_455, s8]
      by_cases c : z = 0
      · have hF := hz.mp c
        have e3 : ms_svx t w wk wi C B S b = l[0]? := by unfold ms_svx; rw [if_neg hF, hwat]
        rw [if_pos c]
        cases l with
        | nil =>
          rw [e3] at step2
          rw [if_pos (show Int32.ofNat ([] : List Nat).length = 0 from rfl)]
          exact step2
        | cons q0 r =>
          rw [e3] at step2
          have h40' := hl.2.1
          rw [if_neg (fun z => by have := (ni_eq (a := (q0 :: r).length) (b := 0) (by omega) (by omega)).mp z; simp at this), k19, ev_lq_s, sq q0 r rfl]
          exact step2
      · have hF : ms_rf (wi b) ∧ ms_gr t w wk wi B S b = true := Decidable.not_not.mp (fun y => c (hz.mpr y))
        have e3 : ms_svx t w wk wi C B S b = none := by unfold ms_svx; rw [if_pos hF]
        rw [e3] at step2
        rw [if_neg c]
        exact step2
    refine ER_bk ?_
    rw [bk_271_425, c6]
    by_cases c : z = 0
    · have hF := hz.mp c
      rw [if_pos c]
      by_cases hrf : ms_rf (wi b)
      · have hg : ms_gr t w wk wi B S b = false := by
          cases hg : ms_gr t w wk wi B S b with
          | false => rfl
          | true => exact absurd ⟨hrf, hg⟩ hF
        rw [hg] at step1
        rw [if_neg (show ¬ (Int32.ofNat (wi b) = 2) from fun z => by have := (ni_eq (a := wi b) (b := 2) (by omega) (by omega)).mp z; omega), if_neg (show ¬ (Int32.ofNat (wi b) = 4) from fun z => by have := (ni_eq (a := wi b) (b := 4) (by omega) (by omega)).mp z; omega)]
        exact step1
      · rw [g2 b hrf] at step1
        by_cases c2 : wi b = 2
        · rw [show ms_g0 wi b = true by unfold ms_g0; rw [c2]; rfl] at step1
          rw [if_pos (by rw [c2]; rfl)]
          exact step1
        · rw [if_neg (show ¬ (Int32.ofNat (wi b) = 2) from fun z => c2 ((ni_eq (a := wi b) (b := 2) (by omega) (by omega)).mp z))]
          by_cases c4 : wi b = 4
          · rw [show ms_g0 wi b = true by unfold ms_g0; rw [c4]; rfl] at step1
            rw [if_pos (by rw [c4]; rfl)]
            exact step1
          · rw [show ms_g0 wi b = false by unfold ms_g0; simp [c2, c4]] at step1
            rw [if_neg (show ¬ (Int32.ofNat (wi b) = 4) from fun z => c4 ((ni_eq (a := wi b) (b := 4) (by omega) (by omega)).mp z))]
            exact step1
    · have hF : ms_rf (wi b) ∧ ms_gr t w wk wi B S b = true := Decidable.not_not.mp (fun y => c (hz.mpr y))
      rw [hF.2] at step1
      rw [if_neg c]
      exact step1
  refine ER_bk ?_
  rw [bk_271_398, c6, lm_refreshes a2]
  simp only [ev_bi, k9, ev_lq_s, c0]
  by_cases hrf : ms_rf (wi b)
  · rw [if_pos hrf, if_neg (by decide)]
    by_cases c : ct_n (ms_bf t w wk wi b) B < S
    · rw [if_pos ((ni_lt (by omega) (by omega)).mpr c)]
      exact fin 1 ⟨fun z => absurd z (by decide), fun z => absurd ⟨hrf, (g1 b hb hrf).mpr c⟩ z⟩ _
    · rw [if_neg (fun z => c ((ni_lt (by omega) (by omega)).mp z))]
      exact fin 0 ⟨fun _ z => c ((g1 b hb hrf).mp z.2), fun _ => rfl⟩ _
  · rw [if_neg hrf, if_pos rfl]
    exact fin 0 ⟨fun _ z => hrf z.1, fun _ => rfl⟩ _
end LM10
