/-! THE LAW'S OWN MEMORY, 3: queues -/
/-- l: the waiting requests of bank b whose order is above last, in their order -/
def SF (w : Nat → Int32) (b C : Nat) : Int32 → List Nat → Prop
  | last, [] => ∀ q, q < C → ¬ ms_wt w b last q
  | last, q0 :: r => (q0 < C ∧ ms_wt w b last q0 ∧ ∀ q, q < C → ms_wt w b last q → q ≠ q0 → w (375 + 6 * q0 + 5) < w (375 + 6 * q + 5)) ∧ SF w b C (w (375 + 6 * q0 + 5)) r
theorem SF.wat {w : Nat → Int32} {b C : Nat} : ∀ {l : List Nat} {last : Int32} (j : Nat), SF w b C last l → ms_wat w b C j last = l[j]?
  | [], last, 0, h => ms_fnd_no h
  | [], last, j + 1, h => by
    show (match ms_fnd w b last C with
      | none => none
      | some f => ms_wat w b C j (w (375 + 6 * f + 5))) = none
    rw [ms_fnd_no h]
  | q0 :: r, last, 0, h => ms_fnd_is h.1.2.1 h.1.2.2 h.1.1
  | q0 :: r, last, j + 1, h => by
    show (match ms_fnd w b last C with
      | none => none
      | some f => ms_wat w b C j (w (375 + 6 * f + 5))) = r[j]?
    rw [ms_fnd_is h.1.2.1 h.1.2.2 h.1.1]
    exact SF.wat j h.2
/-- the same waiting, with the same orders -/
theorem SF.same {w w' : Nat → Int32} {b C : Nat} : ∀ {l : List Nat} {last last' : Int32}, SF w b C last l → (∀ q, q < C → (ms_wt w b last q ↔ ms_wt w' b last' q)) → (∀ q, q < C → ms_wt w b last q → w' (375 + 6 * q + 5) = w (375 + 6 * q + 5)) → SF w' b C last' l
  | [], last, last', h, h1, _ => fun q hq z => h q hq ((h1 q hq).mpr z)
  | q0 :: r, last, last', h, h1, h2 => by
    obtain ⟨⟨hq, hw, hm⟩, hr⟩ := h
    have hw' := (h1 q0 hq).mp hw
    have e0 := h2 q0 hq hw
    refine ⟨⟨hq, hw', fun q hqc z hne => ?_⟩, ?_⟩
    · have z' := (h1 q hqc).mpr z
      rw [e0, h2 q hqc z']
      exact hm q hqc z' hne
    · rw [e0]
      refine SF.same hr (fun q hqc => ⟨fun z => ?_, fun z => ?_⟩) (fun q hqc z => h2 q hqc ⟨z.1, z.2.1, Int32.lt_trans hw.2.2 z.2.2⟩)
      · have z0 : ms_wt w b last q := ⟨z.1, z.2.1, Int32.lt_trans hw.2.2 z.2.2⟩
        have z1 := (h1 q hqc).mp z0
        exact ⟨z1.1, z1.2.1, by rw [h2 q hqc z0]; exact z.2.2⟩
      · have l0 : last' < w (375 + 6 * q0 + 5) := by rw [← e0]; exact hw'.2.2
        have z1 : ms_wt w' b last' q := ⟨z.1, z.2.1, Int32.lt_trans l0 z.2.2⟩
        have z0 := (h1 q hqc).mpr z1
        exact ⟨z0.1, z0.2.1, by rw [← h2 q hqc z0]; exact z.2.2⟩
/-- one more comes behind all others (the count may have grown by it) -/
theorem SF.add {w w' : Nat → Int32} {b C C' q0 : Nat} (hC : C ≤ C') (h0 : q0 < C') (hs : w' (375 + 6 * q0 + 3) = 1) (hbk : w' (375 + 6 * q0 + 0) = Int32.ofNat b)
    (hn : ∀ last q, q < C → ms_wt w b last q → q ≠ q0) (he : ∀ last q, q < C' → q ≠ q0 → (ms_wt w' b last q ↔ (q < C ∧ ms_wt w b last q))) (ho : ∀ last q, q < C → ms_wt w b last q → w' (375 + 6 * q + 5) = w (375 + 6 * q + 5) ∧ w (375 + 6 * q + 5) < w' (375 + 6 * q0 + 5)) :
    ∀ {l : List Nat} {last : Int32}, SF w b C last l → last < w' (375 + 6 * q0 + 5) → SF w' b C' last (l ++ [q0])
  | [], last, h, hl => by
    refine ⟨⟨h0, ⟨hs, hbk, hl⟩, fun q hq z hne => ?_⟩, fun q hq z => ?_⟩
    · obtain ⟨a, c⟩ := (he last q hq hne).mp z
      exact absurd c (h q a)
    · by_cases e : q = q0
      · subst e
        exact absurd z.2.2 (Int32.lt_irrefl)
      · obtain ⟨a, c⟩ := (he _ q hq e).mp z
        exact h q a ⟨c.1, c.2.1, Int32.lt_trans hl c.2.2⟩
  | x :: r, last, h, hl => by
    obtain ⟨⟨hq, hw, hm⟩, hr⟩ := h
    obtain ⟨o1, o2⟩ := ho last x hq hw
    refine ⟨⟨by omega, (he last x (by omega) (hn last x hq hw)).mpr ⟨hq, hw⟩, fun q hqc z hne => ?_⟩, ?_⟩
    · by_cases e : q = q0
      · subst e
        rw [o1]
        exact o2
      · obtain ⟨a, c⟩ := (he last q hqc e).mp z
        rw [o1, (ho last q a c).1]
        exact hm q a c hne
    · rw [o1]
      exact SF.add hC h0 hs hbk hn he ho hr o2
/-- all orders are below K -/
def HO (w : Nat → Int32) (C K : Nat) : Prop := w 10 = Int32.ofNat K ∧ K = ms_cm w C ∧ C ≤ 40 ∧ ∀ q, q < C → w (375 + 6 * q + 3) ≠ 0 → ∃ p, p < K ∧ w (375 + 6 * q + 5) = Int32.ofNat p
theorem HO.K40 {w : Nat → Int32} {C K : Nat} (h : HO w C K) : K ≤ 40 := by
  obtain ⟨-, h2, h3, -⟩ := h
  have := ms_cm_le w C
  omega
theorem SF.len {w : Nat → Int32} {b C K : Nat} (hk : HO w C K) : ∀ {l : List Nat} {p : Nat}, p ≤ K → SF w b C (ms_L p) l → p + l.length ≤ K
  | [], p, hp, _ => hp
  | q0 :: r, p, hp, h => by
    obtain ⟨⟨hq, hw, -⟩, hr⟩ := h
    obtain ⟨p', h1, h2⟩ := hk.2.2.2 q0 hq (by rw [hw.1]; decide)
    have hK := hk.K40
    have hlt := hw.2.2
    rw [h2, ms_L_lt (by omega) (by omega)] at hlt
    rw [h2] at hr
    have := SF.len hk (p := p' + 1) (by omega) hr
    show p + (r.length + 1) ≤ K
    omega
/-- the queue of bank b holds l -/
def QL (u : Nat → Int32) (b : Nat) (l : List Nat) : Prop := u (5 * b + 0) = Int32.ofNat l.length ∧ l.length ≤ 40 ∧ ∀ j q, l[j]? = some q → u (100 + 40 * b + j) = Int32.ofNat q
/-- the queues are those of the requests that wait -/
def QR (w u : Nat → Int32) (C : Nat) : Prop := ∀ b, b < 4 → ∃ l, SF w b C (-1) l ∧ QL u b l
theorem SF.mem {w : Nat → Int32} {b C : Nat} : ∀ {l : List Nat} {last : Int32} {q : Nat}, SF w b C last l → q ∈ l → q < C ∧ ms_wt w b last q
  | [], _, _, _, h => nomatch h
  | q0 :: r, last, q, h, hq => by
    rcases List.mem_cons.mp hq with e | e
    · rw [e]; exact ⟨h.1.1, h.1.2.1⟩
    · obtain ⟨a, b⟩ := SF.mem h.2 e
      exact ⟨a, b.1, b.2.1, Int32.lt_trans h.1.2.1.2.2 b.2.2⟩
