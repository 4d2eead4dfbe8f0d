/-! THE LAW'S OWN MEMORY, 19: a step -/
/-- the heat, small -/
def HE (w : Nat → Int32) (τ : Nat) : Prop := ms_rg (w 4) 0 20 ∧ ∀ b, b < 4 → ms_rg (w (19 + 9 * b + 1)) 0 (20 * τ)
theorem lb_heat {t V : Nat → Int32} {R b wi : Nat} {sv : Option Nat} {to hot : Int32} {M : Int} (hb : b < 4) (hR : R ≤ 16) (h1 : to = -1 ∨ ∃ r, r < 16 ∧ to = Int32.ofNat r) (h2 : ∀ q, sv = some q → ∃ r, r < 16 ∧ to = Int32.ofNat r)
    (h4 : ms_rg (V 4) 0 20) (hM : M ≤ 100000) (hh : ms_rg (V (19 + 9 * b + 1)) 0 M) : ms_rg (lb_one t V R b wi sv to hot (19 + 9 * b + 1)) 0 (M + 20) := by
  unfold lb_one
  rw [rows_n hR (fun z => by unfold AR at z; rcases z with z | ⟨x, hx, z⟩ <;> omega)]
  obtain ⟨a1, a2⟩ := hh
  obtain ⟨a3, a4⟩ := h4
  have cool : ms_rg (ms_cool1 V b none (19 + 9 * b + 1)) 0 (M + 20) := by
    have z0 : (0 : Int32).toInt = 0 := by decide
    have z1 : (-1 : Int32).toInt = -1 := by decide
    unfold ms_cool1
    by_cases c : 0 < V (19 + 9 * b + 1)
    · rw [if_pos (show none = none ∧ _ from ⟨rfl, c⟩), u1s]
      rw [i32_lt, z0] at c
      unfold ms_rg
      rw [i32_add, z1]
      · omega
      · rw [z1]; omega
      · rw [z1]; omega
    · rw [if_neg (fun z => c z.2)]
      unfold ms_rg
      omega
  cases sv with
  | none =>
    show ms_rg ((if to = -1 then ms_cool1 V b none else ms_refresh (ms_cool1 V b none) b to.toNatClampNeg (wi = 1)) (19 + 9 * b + 1)) 0 (M + 20)
    by_cases c : to = -1
    · rw [if_pos c]
      exact cool
    · rw [if_neg c]
      obtain ⟨r, hr, rfl⟩ := h1.resolve_left c
      rw [ni_c (by omega), rf_n hr (fun z => by unfold AF at z; rcases z with z | z | ⟨x, hx, z⟩ | z | z <;> omega)]
      exact cool
  | some p =>
    obtain ⟨r, hr, rfl⟩ := h2 p rfl
    have e : ms_cool1 V b (some p) = V := if_neg (fun z => absurd z.1 (by simp))
    rw [e]
    show ms_rg (ms_serve V b p (Int32.ofNat r).toNatClampNeg (19 + 9 * b + 1)) 0 (M + 20)
    rw [ni_c (by omega), serve_eq hb hr, u1n (by omega), u1n (by omega), u1n (by omega), u1n (by omega), u1s]
    unfold ms_rg
    rw [i32_add (by omega) (by omega)]
    omega
theorem lb_n {t V : Nat → Int32} {R b wi k : Nat} {sv : Option Nat} {to hot : Int32} (hR : R ≤ 16) (h1 : to = -1 ∨ ∃ r, r < 16 ∧ to = Int32.ofNat r) (h2 : ∀ q, sv = some q → ∃ r, r < 16 ∧ to = Int32.ofNat r) (hb : b < 4)
    (hk : k < 10 ∨ ∃ x, x < 4 ∧ ((x ≠ b ∧ k = 19 + 9 * x + 1) ∨ k = 19 + 9 * x + 6)) : lb_one t V R b wi sv to hot k = V k := by
  unfold lb_one
  rw [rows_n hR (fun z => by unfold AR at z; rcases z with z | ⟨x, hx, z⟩ <;> rcases hk with hk | ⟨y, hy, hk⟩ <;> omega), ac_n h1 h2 (fun z => ?_), cool_n (b := b) (sv := sv) (fun z => by unfold AH at z; rcases hk with hk | ⟨y, hy, hk⟩ <;> omega)]
  unfold AA at z
  rcases z with z | z | ⟨x, hx, z⟩ | ⟨x, hx, z⟩ <;> rcases hk with hk | ⟨y, hy, hk⟩ <;> omega
section LM19
variable {n : Nat} {lk : Nat → Nat → Nat → Bool} {d : Nat → Nat → Nat → Int32} {wn : Nat} {tt : Nat → Nat} {e : Nat → Nat → Nat → Int32} {q : Nat → Nat → Nat → Nat} {i : Nat} {t u w : Nat → Int32} {P : ev_O × ev_M → Prop}
theorem lm_banks (hq : LQ q i) {B R C K τ : Nat} (hT : TC t B R) {W : Nat → Int32} {wi : Nat → Nat} {sv : Nat → Option Nat} {to hot : Nat → Int32} (h40 : C ≤ 40) (hτ : τ ≤ 3000) (hTS : ms_TS B sv to) (hBL : BL W) (hHE : HE W τ)
    (hsv : ∀ b p, b < B → sv b = some p → ms_wat W b C 0 (-1) = some p) (hwi : ∀ b, b < B → wi b < 7 ∧ W (19 + 9 * b + 6) = Int32.ofNat (wi b)) (hhot : ∀ b, b < B → hot b = if ms_hot W b then 1 else 0)
    (hu : ∀ b, b < B → u (5 * b + 2) = to b ∧ u (5 * b + 3) = ms_en (sv b)) (hr : QR W u C) (hk : HO W C K) (h : LV e i t W u)
    (kk : ∀ e' u' y', LV e' i t (ev_u1 (mb t W R to hot sv wi B) 14 (W 14)) u' → LF e e' i → y' = mb t W R to hot sv wi B 14 - W 14 → QR (mb t W R to hot sv wi B) u' C → HO (mb t W R to hot sv wi B) C K → BL (mb t W R to hot sv wi B) → HE (mb t W R to hot sv wi B) (τ + 1) → ER (273, 403, [ev_R 200 i, ev_I y', ev_I (Int32.ofNat B)], [], 0, 0) (n, lk, d, wn, tt, e', q) P) :
    ER (273, 8, [ev_R 200 i, ev_I 0, ev_I (Int32.ofNat 0)], [], 0, 0) (n, lk, d, wn, tt, e, q) P := by
  obtain ⟨⟨t0, t1, -, b4, -, h16⟩, -⟩ := id hT
  have loop : ∀ j b, b + j = B → ∀ V e' u' y', V = mb t W R to hot sv wi b → LV e' i t (ev_u1 V 14 (W 14)) u' → LF e e' i → y' = V 14 - W 14 → QR V u' C → HO V C K → BL V → (ms_rg (V 4) 0 20 ∧ ∀ x, x < 4 → (x < b → ms_rg (V (19 + 9 * x + 1)) 0 (20 * (τ + 1))) ∧ (b ≤ x → ms_rg (V (19 + 9 * x + 1)) 0 (20 * τ))) →
      (∀ x, x < B → V (19 + 9 * x + 6) = Int32.ofNat (wi x)) → (∀ x, b ≤ x → x < B → ms_wat V x C 0 (-1) = ms_wat W x C 0 (-1) ∧ u' (5 * x + 2) = to x ∧ u' (5 * x + 3) = ms_en (sv x)) → ER (273, 8, [ev_R 200 i, ev_I y', ev_I (Int32.ofNat b)], [], 0, 0) (n, lk, d, wn, tt, e', q) P := by
    intro j
    induction j with
    | zero =>
      intro b hb V e' u' y' hV g1 g2 g3 g4 g5 g6 g7 g8 g9
      have hbB : b = B := by omega
      subst hbB
      have c0 : e' 200 i 0 = Int32.ofNat b := (g1 _ _ _ _ _ (la_f (k := 0) (by omega))).trans t0
      refine ER_bk ?_
      rw [bk_273_8, c0, if_neg (fun z => Int32.lt_irrefl z)]
      subst hV
      refine kk e' u' y' g1 g2 g3 g4 g5 g6 ⟨g7.1, fun x hx => ?_⟩
      by_cases c : x < b
      · exact (g7.2 x hx).1 c
      · obtain ⟨a1, a2⟩ := (g7.2 x hx).2 (by omega)
        exact ⟨a1, by omega⟩
    | succ j ih =>
      intro b hb V e' u' y' hV g1 g2 g3 g4 g5 g6 g7 g8 g9
      obtain ⟨h1, h2⟩ := hTS b (by omega)
      obtain ⟨w1, w2, w3⟩ := g9 b (Nat.le_refl b) (by omega)
      have hb4 : b < 4 := by omega
      have hHb := (g7.2 b hb4).2 (Nat.le_refl b)
      have hhv : hot b = if ms_hot V b then 1 else 0 := by
        rw [hhot b (by omega)]
        have e := hot_AG (V := V) (V' := W) (b := b) (by rw [hV]; exact mb_lo hTS b4 h16 (b := b) (by omega) hb4 (.inl (by omega)) b (Nat.le_refl b)) (by rw [hV]; exact mb_lo hTS b4 h16 (b := b) (by omega) hb4 (.inr (.inl rfl)) b (Nat.le_refl b))
        by_cases c : ms_hot W b
        · rw [if_pos c, if_pos (e.mpr c)]
        · rw [if_neg c, if_neg (fun z => c (e.mp z))]
      have hV' : mb t W R to hot sv wi (b + 1) = lb_one t V R b (wi b) (sv b) (to b) (hot b) := by
        rw [hV, ← lb_eq hb4 h16 h1]
        rfl
      have hn : ∀ k, (k < 10 ∨ ∃ x, x < 4 ∧ ((x ≠ b ∧ k = 19 + 9 * x + 1) ∨ k = 19 + 9 * x + 6)) → mb t W R to hot sv wi (b + 1) k = V k := fun k hk => by rw [hV']; exact lb_n h16 h1 h2 hb4 hk
      refine lm_bank hq hT (by omega) g6 ⟨hHb.1, by have := hHb.2; omega⟩ h40 h1 (fun p hp => ⟨w1.trans (hsv b p (by omega) hp), h2 p hp⟩) (hwi b (by omega)).1 (g8 b (by omega)) hhv hV' w2 w3 g4 g5 g1 g3 fun e2 u2 y2 a1 a2 a3 a4 a5 a6 a7 => ?_
      refine ih (b + 1) (by omega) _ e2 u2 y2 rfl a1 (g2.tr a2) a3 a4 a5 ?_ ⟨?_, fun x hx => ⟨fun c => ?_, fun c => ?_⟩⟩ (fun x hx => ?_) (fun x c hx => ⟨(a6 x (by omega) (by omega)).trans (g9 x (by omega) hx).1, ?_, ?_⟩)
      · rw [hV']
        exact BL_rows (BL_ac h1 h2 hb4 (BL_cool hb4 g6)) R
      · rw [hn 4 (.inl (by omega))]
        exact g7.1
      · by_cases cb : x = b
        · subst cb
          rw [hV']
          have := lb_heat (t := t) (wi := wi x) (hot := hot x) hb4 h16 h1 h2 g7.1 (by omega) hHb
          exact ⟨this.1, by have := this.2; omega⟩
        · rw [hn _ (.inr ⟨x, hx, .inl ⟨cb, rfl⟩⟩)]
          exact (g7.2 x hx).1 (by omega)
      · rw [hn _ (.inr ⟨x, hx, .inl ⟨by omega, rfl⟩⟩)]
        exact (g7.2 x hx).2 (by omega)
      · rw [hn _ (.inr ⟨x, by omega, .inr rfl⟩)]
        exact g8 x hx
      · rw [a7 x 2 (by omega) (by omega) (by omega) (by omega)]
        exact (g9 x (by omega) hx).2.1
      · rw [a7 x 3 (by omega) (by omega) (by omega) (by omega)]
        exact (g9 x (by omega) hx).2.2
  refine loop B 0 (by omega) W e u 0 rfl ?_ (LF.rf e i) ?_ hr hk hBL ⟨hHE.1, fun x hx => ⟨fun c => by omega, fun _ => hHE.2 x hx⟩⟩ (fun x hx => (hwi x hx).2) (fun x _ hx => ⟨rfl, hu x hx⟩)
  · rw [u1_id rfl]
    exact h
  · rw [Int32.sub_self]
end LM19
