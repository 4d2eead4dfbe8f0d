/-! SOUNDNESS, 7b: the law's things -/
theorem sd_u3_of {d : Nat → Nat → Nat → Int32} {r0 i0 k0 r i : Nat} {v : Int32} (k : Nat) (h : ¬ (r = r0 ∧ i = i0)) : ev_u3 d r0 i0 k0 v r i k = d r i k := sd_u3_off k h
theorem sd_n3_off {q : Nat → Nat → Nat → Nat} {r0 i0 k0 r i v : Nat} (k : Nat) (h : ¬ (r = r0 ∧ i = i0)) : ev_n3 q r0 i0 k0 v r i k = q r i k := by
  unfold ev_n3
  by_cases h1 : r = r0
  · rw [if_pos h1]
    unfold ev_n2
    rw [if_neg (fun z => h ⟨h1, z⟩), h1]
  · rw [if_neg h1]
theorem sd_n3_on {q : Nat → Nat → Nat → Nat} {r i k0 v : Nat} (k : Nat) : ev_n3 q r i k0 v r i k = if k = k0 then v else q r i k := by
  unfold ev_n3 ev_n2 ev_n1
  rw [if_pos rfl, if_pos rfl]
theorem sd_z3_off {q : Nat → Nat → Nat → Nat} {r0 i0 r i : Nat} (k : Nat) (h : ¬ (r = r0 ∧ i = i0)) : ev_z3 q r0 i0 r i k = q r i k := by
  unfold ev_z3
  by_cases h1 : r = r0
  · rw [if_pos h1]
    unfold ev_z2
    rw [if_neg (fun z => h ⟨h1, z⟩), h1]
  · rw [if_neg h1]
theorem sd_z3_on {q : Nat → Nat → Nat → Nat} {r i : Nat} (k : Nat) : ev_z3 q r i r i k = 0 := by
  unfold ev_z3 ev_z2
  rw [if_pos rfl, if_pos rfl]
/-- one of the law's things is written -/
theorem sd_R.lput {g : sd_G} {n w : Nat} {lk : Nat → Nat → Nat → Bool} {d e e1 : Nat → Nat → Nat → Int32} {t : Nat → Nat} {q q1 : Nat → Nat → Nat → Nat} {H H1 : Heap} {r0 i0 : Nat} (h : sd_R g (n, lk, d, w, t, e, q) H) (ha : sd_la (n, w, t) r0 i0) (hz : H1.size = H.size) (oq : ∀ p : Nat, p ≠ sd_ad g r0 i0 → H1[p]? = H[p]?)
    (he : ∀ r i k, 199 ≤ r → ¬ (r = r0 ∧ i = i0) → e1 r i k = e r i k) (hq : ∀ r i k, 199 < r → ¬ (r = r0 ∧ i = i0) → q1 r i k = q r i k) (hc : sd_lc g (w, t, e1, q1) r0 i0 H1)
    (hk : ∀ k j, sd_ir r0 k = true → k < sd_lz r0 → q1 r0 i0 k = j + 1 → sd_gd (n, w, t) (sd_lr r0 k) j) : sd_R g (n, lk, d, w, t, e1, q1) H1 := by
  obtain ⟨h1, h2, h3, h4, h5, h6, h7, h8, h9⟩ := h
  refine ⟨fun r i hr hi => ?_, fun z => by rw [hz]; exact h2 z, fun r i k hr hi a b c => h3 r i k hr hi a b c, h4, h5, by rw [hz]; exact h6, h7, fun r i a => ?_, fun r i k j a b c z => ?_⟩
  · have hcc := h1 r i hr hi
    exact hcc.kept (oq _ (sd_nel hi.1 ha.1)) (fun _ => rfl) (fun _ => rfl)
  · by_cases z : r = r0 ∧ i = i0
    · rw [z.1, z.2]; exact hc
    · have hne : sd_ad g r i ≠ sd_ad g r0 i0 := by
        rw [sd_adl a.1, sd_adl ha.1]
        intro y
        have e0 : i = i0 := by omega
        have a4 : t i = r := a.2.2.2
        have b4 : t i0 = r0 := ha.2.2.2
        exact z ⟨by rw [← a4, ← b4, e0], e0⟩
      exact (h8 r i a).kept (oq _ hne) (fun k => hq r i k a.1 z) (fun k => he r i k (by have := a.1; omega) z) (fun _ => he 199 i 0 (by omega) (fun y => by have := ha.1; omega))
  · by_cases y : r = r0 ∧ i = i0
    · have z : q1 r i k = j + 1 := z
      rw [y.1, y.2] at z
      rw [y.1] at b c
      rw [y.1]
      exact hk k j b c z
    · have z : q1 r i k = j + 1 := z
      rw [hq r i k a.1 y] at z
      exact h9 r i k j a b c z
/-- one of the law's things is made -/
theorem sd_R.lnew {g : sd_G} {n w : Nat} {lk : Nat → Nat → Nat → Bool} {d e e1 : Nat → Nat → Nat → Int32} {t : Nat → Nat} {q : Nat → Nat → Nat → Nat} {H H1 : Heap} {r0 : Nat} (h : sd_R g (n, lk, d, w, t, e, q) H) (hn : n = 384) (hr0 : 199 < r0) (hr1 : r0 ≤ 215) (hz : H1.size = H.size + 1) (oq : ∀ p : Nat, p < H.size → H1[p]? = H[p]?)
    (he : ∀ r i k, 199 ≤ r → i ≠ w → e1 r i k = e r i k) (hc : sd_lc g (w + 1, ev_n1 t w r0, e1, ev_z3 q r0 w) r0 w H1) : sd_R g (n, lk, d, w + 1, ev_n1 t w r0, e1, ev_z3 q r0 w) H1 := by
  obtain ⟨h1, h2, h3, h4, h5, h6, h7, h8, h9⟩ := h
  have hs : H.size + 1 = g.1 + (n + w) := h2 (by show n < 1000; omega)
  have hle : sd_le (n, w, t) (n, w + 1, ev_n1 t w r0) := ⟨Nat.le_refl _, Nat.le_succ w, fun j hj => by
    have hj : j < w := hj
    show (if j = w then r0 else t j) = t j
    rw [if_neg (by omega)]⟩
  have old : ∀ r i, sd_la (n, w + 1, ev_n1 t w r0) r i → (r = r0 ∧ i = w) ∨ (sd_la (n, w, t) r i ∧ i ≠ w) := by
    intro r i a
    have a3 : i < w + 1 := a.2.2.1
    have a4 : (if i = w then r0 else t i) = r := a.2.2.2
    by_cases z : i = w
    · rw [if_pos z] at a4; exact Or.inl ⟨a4.symm, z⟩
    · rw [if_neg z] at a4
      exact Or.inr ⟨⟨a.1, a.2.1, by show i < w; omega, a4⟩, z⟩
  refine ⟨fun r i hr hi => ?_, fun _ => ?_, fun r i k hr hi a b c => ?_, h4, h5, ?_, fun z => ?_, fun r i a => ?_, fun r i k j a b c z => ?_⟩
  · have hcc := h1 r i hr ⟨hi.1, hi.2⟩
    exact hcc.kept (oq _ hcc.lt) (fun _ => rfl) (fun _ => rfl)
  · show H1.size + 1 = g.1 + (n + (w + 1))
    omega
  · obtain ⟨x, y⟩ := h3 r i k hr ⟨hi.1, hi.2⟩ a b c
    exact ⟨x, y.mono hle⟩
  · show g.1 ≤ H1.size
    have : g.1 ≤ H.size := h6
    omega
  · have z : n < 384 := z
    omega
  · rcases old r i a with z | ⟨b, z⟩
    · rw [z.1, z.2]; exact hc
    · have hcc := h8 r i b
      exact hcc.kept (oq _ hcc.lt) (fun k => sd_z3_off k (fun y => z y.2)) (fun k => he r i k (by have := b.1; omega) z) (fun _ => he 199 i 0 (by omega) z)
  · have z : ev_z3 q r0 w r i k = j + 1 := z
    rcases old r i a with y | ⟨y, x⟩
    · rw [y.1, y.2, sd_z3_on] at z; cases z
    · rw [sd_z3_off k (fun v => x v.2)] at z
      exact (h9 r i k j y b c z).mono hle
theorem sd_lsize {g : sd_G} {n w : Nat} {lk : Nat → Nat → Nat → Bool} {d e : Nat → Nat → Nat → Int32} {t : Nat → Nat} {q : Nat → Nat → Nat → Nat} {H : Heap} {r : Nat} (h : sd_R g (n, lk, d, w, t, e, q) H) (hn : n = 384) (hr : 199 < r) : H.size = sd_ad g r w := by
  have hs : H.size + 1 = g.1 + (n + w) := h.2.1 (by show n < 1000; omega)
  rw [sd_adl hr]
  omega
theorem sd_lnw {n w r : Nat} {t : Nat → Nat} (h : 199 < r) (h2 : r ≤ 215) : sd_la (n, w + 1, ev_n1 t w r) r w := ⟨h, h2, Nat.lt_succ_self w, by show (if w = w then r else t w) = r; rw [if_pos rfl]⟩
theorem sd_le2 {n w r : Nat} {t : Nat → Nat} : sd_le (n, w, t) (n, w + 1, ev_n1 t w r) := ⟨Nat.le_refl _, Nat.le_succ w, fun j hj => by
    have hj : j < w := hj
    show (if j = w then r else t j) = t j
    rw [if_neg (by omega)]⟩
theorem sd_mw_eq {r pc len c s c' s' m : Nat} {e' : Nat → Nat → Nat → Int32} {ls st : List ev_V} {n w : Nat} {lk : Nat → Nat → Nat → Bool} {d e : Nat → Nat → Nat → Int32} {t : Nat → Nat} {q : Nat → Nat → Nat → Nat} {go : ev_K} {z : ev_O × ev_M} (h : ev_mw r e' pc len c s c' s' m ls st (n, lk, d, w, t, e, q) go = some z) :
    (n = 384 ∧ c + c' ≤ ev_mc m ∧ s + s' ≤ ev_ms m) ∧ go (pc + len) ls (.inr (.inr (r, w)) :: st) (n, lk, d, w + 1, ev_n1 t w r, e', ev_z3 q r w) (c + c') (s + s') = some z := by
  obtain ⟨hc, h⟩ := sd_bif h
  simp only [Bool.and_eq_true] at hc
  exact ⟨⟨Nat.eq_of_beq_eq_true hc.1, Nat.le_of_ble_eq_true hc.2.1, Nat.le_of_ble_eq_true hc.2.2⟩, h⟩
/-- what is told of a field of the law's -/
def sd_lq (r : Nat) : Bool := (vwCl[(ev_ln r).2]?).all fun q => Nat.beq q.2.2 (ev_lz (ev_ln r).2) && (List.range q.2.2).all fun k => match ev_lf r k with
  | true => (parseFieldDescriptor (q.2.1 k).2.2.1).any (fun t => t.isReference)
  | false => decide ((q.2.1 k).2.2.1 = (match ev_ly (ev_ln r).2 k with | 2 => "Z" | 4 => "B" | _ => "I"))
theorem sd_lq_ok : ∀ r, r < 216 → 199 < r → (ev_ln r).1 = 0 → sd_lq r = true := by decide +kernel
theorem sd_lfl {r a : Nat} {q : vw_C} (h1 : 199 < r) (h2 : r ≤ 215) (hkn : ev_ln r = (0, a)) (hq : vwCl[a]? = some q) : q.2.2 = ev_lz a ∧ ∀ k, k < q.2.2 →
    ((ev_lf r k = true ∧ ∃ t, parseFieldDescriptor (q.2.1 k).2.2.1 = some t ∧ t.isReference = true) ∨ (ev_lf r k = false ∧ (q.2.1 k).2.2.1 = (match ev_ly a k with | 2 => "Z" | 4 => "B" | _ => "I"))) := by
  have h := sd_lq_ok r (by omega) h1 (by rw [hkn])
  unfold sd_lq at h
  rw [hkn] at h
  rw [hq] at h
  have h : (Nat.beq q.2.2 (ev_lz a) && (List.range q.2.2).all fun k => match ev_lf r k with
    | true => (parseFieldDescriptor (q.2.1 k).2.2.1).any (fun t => t.isReference)
    | false => decide ((q.2.1 k).2.2.1 = (match ev_ly a k with | 2 => "Z" | 4 => "B" | _ => "I"))) = true := h
  simp only [Bool.and_eq_true, List.all_eq_true, List.mem_range] at h
  refine ⟨Nat.eq_of_beq_eq_true h.1, fun k hk => ?_⟩
  have b := h.2 k hk
  split at b
  · rename_i hr
    cases hp : parseFieldDescriptor (q.2.1 k).2.2.1 with
    | none => rw [hp] at b; exact absurd b (by simp)
    | some t => rw [hp] at b; exact Or.inl ⟨hr, t, rfl, by simpa using b⟩
  · rename_i hr
    exact Or.inr ⟨hr, of_decide_eq_true b⟩
theorem sd_l0 {g : sd_G} {o : ev_W} {r i a : Nat} {H : Heap} (h : sd_lc g o r i H) (hk : ev_ln r = (0, a)) : ∃ q : vw_C, vwCl[a]? = some q ∧ t_OB (sd_ad g r i) (g.2.1.1 a) q.2.2 (g.2.1.2 a) H (fun k => if ev_lf r k = true then sd_lu g o r i k else .int (o.2.2.1 r i k)) := by
  unfold sd_lc at h
  rw [hk] at h
  exact h
