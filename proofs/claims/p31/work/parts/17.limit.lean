/-! THE LIMIT: the evaluator without fuel -/
def ev_uc (call : ev_F → ev_M → ev_T) (us : List ((ev_F × ev_M) × (ev_O × ev_M))) : Prop := ∀ u ∈ us, call u.1.1 u.1.2 = some u.2
theorem ev_uc0 {call : ev_F → ev_M → ev_T} : ev_uc call [] := fun u hu => nomatch hu
theorem ev_uc1 {call : ev_F → ev_M → ev_T} {u : (ev_F × ev_M) × (ev_O × ev_M)} (h : call u.1.1 u.1.2 = some u.2) : ev_uc call [u] := fun v hv => by rw [List.mem_singleton.mp hv]; exact h
theorem ev_uc2 {call : ev_F → ev_M → ev_T} {u v : (ev_F × ev_M) × (ev_O × ev_M)} (h : call u.1.1 u.1.2 = some u.2) (h2 : call v.1.1 v.1.2 = some v.2) : ev_uc call [u, v] := fun w hw => by
  rcases List.mem_cons.mp hw with e | e
  · rw [e]; exact h
  · rw [List.mem_singleton.mp e]; exact h2
def ev_uk (K : ev_K) (r : ev_O × ev_M) : Option (Nat × List ev_V × List ev_V × ev_M × Nat × Nat) → Prop
  | none => True
  | some (pc, ls, st, μ, c, s) => K pc ls st μ c s = some r
section FA
variable {K : ev_K} {r : ev_O × ev_M}
theorem ev_f0 {h a len pc c s : Nat} {x : Int32} {ls st : List ev_V} {μ : ev_M} (hv : ev_g0 h a len x pc ls st μ c s K = some r) : ∃ uk, ev_uk K r uk ∧ ∀ K', ev_uk K' r uk → ev_g0 h a len x pc ls st μ c s K' = some r := by
  unfold ev_g0 at hv ⊢
  simp only [Bool.cond_eq_ite] at hv ⊢
  repeat' split at hv
  all_goals first
    | exact ⟨some (_, _, _, _, _, _), hv, fun K' h => by simp_all [ev_uk]⟩
    | cases hv
theorem ev_f1 {h len pc c s : Nat} {ls st : List ev_V} {μ : ev_M} (hv : ev_g1 h len pc ls st μ c s K = some r) : ∃ uk, ev_uk K r uk ∧ ∀ K', ev_uk K' r uk → ev_g1 h len pc ls st μ c s K' = some r := by
  unfold ev_g1 at hv ⊢
  repeat' split at hv
  all_goals first
    | exact ⟨some (_, _, _, _, _, _), hv, fun K' h => by simp_all [ev_uk]⟩
    | cases hv
theorem ev_f5 {h len pc c s : Nat} {ls st : List ev_V} {μ : ev_M} (hv : ev_g5 h len pc ls st μ c s K = some r) : ∃ uk, ev_uk K r uk ∧ ∀ K', ev_uk K' r uk → ev_g5 h len pc ls st μ c s K' = some r := by
  unfold ev_g5 at hv ⊢
  repeat' split at hv
  all_goals first
    | exact ⟨some (_, _, _, _, _, _), hv, fun K' h => by simp_all [ev_uk]⟩
    | cases hv
theorem ev_f6 {h len pc c s : Nat} {ls st : List ev_V} {μ : ev_M} (hv : ev_g6 h len pc ls st μ c s K = some r) : ∃ uk, ev_uk K r uk ∧ ∀ K', ev_uk K' r uk → ev_g6 h len pc ls st μ c s K' = some r := by
  unfold ev_g6 at hv ⊢
  repeat' split at hv
  all_goals first
    | exact ⟨some (_, _, _, _, _, _), hv, fun K' h => by simp_all [ev_uk]⟩
    | cases hv
theorem ev_fsw : ∀ (tb : List Nat) (k : Nat) (y : Int32) (f : Nat → ev_T) (z : ev_T), (∃ t, ev_sw tb k y f z = f t ∧ ∀ f' z', ev_sw tb k y f' z' = f' t) ∨ (ev_sw tb k y f z = z ∧ ∀ f' z', ev_sw tb k y f' z' = z')
  | [], _, _, _, _ => Or.inr ⟨rfl, fun _ _ => rfl⟩
  | t :: ts, k, y, f, z => by
    unfold ev_sw
    by_cases e : y = Int32.ofNat k
    · simp only [if_pos e]
      exact Or.inl ⟨t, rfl, fun _ _ => rfl⟩
    · simp only [if_neg e]
      exact ev_fsw ts (k + 1) y f z
theorem ev_f2 {h a b len pc c s : Nat} {tb : List Nat} {ls st : List ev_V} {μ : ev_M} (hv : ev_g2 h a b len tb pc ls st μ c s K = some r) : ∃ uk, ev_uk K r uk ∧ ∀ K', ev_uk K' r uk → ev_g2 h a b len tb pc ls st μ c s K' = some r := by
  unfold ev_g2 at hv ⊢
  simp only [Bool.cond_eq_ite] at hv ⊢
  repeat' split at hv
  all_goals first
    | exact ⟨some (_, _, _, _, _, _), hv, fun K' h => by simp_all [ev_uk, -Int32.not_lt, -Int32.not_le]⟩
    | (rename_i y rest
       rcases ev_fsw tb a y (fun t => K t ls rest μ c s) (K b ls rest μ c s) with ⟨t, h1, h2⟩ | ⟨h1, h2⟩
       · rw [h1] at hv
         exact ⟨some (t, ls, rest, μ, c, s), hv, fun K' h => by rw [h2]; exact h⟩
       · rw [h1] at hv
         exact ⟨some (b, ls, rest, μ, c, s), hv, fun K' h => by rw [h2]; exact h⟩)
    | cases hv
theorem ev_f3 {h a b len pc c s : Nat} {x : Int32} {ls st : List ev_V} {μ : ev_M} (hv : ev_g3 h a b len x pc ls st μ c s K = some r) : ∃ uk, ev_uk K r uk ∧ ∀ K', ev_uk K' r uk → ev_g3 h a b len x pc ls st μ c s K' = some r := by
  obtain ⟨n, lk, d, o⟩ := μ
  unfold ev_g3 at hv ⊢
  dsimp only at hv ⊢
  simp only [Bool.cond_eq_ite] at hv ⊢
  repeat' split at hv
  all_goals first
    | exact ⟨some (_, _, _, _, _, _), hv, fun K' h => by first
        | (simp_all [ev_uk]; done)
        | (rw [if_pos (by assumption)]; exact h)
        | (have e := ‹ev_kn _ = (5, _)›; simp only [e]; rw [if_pos (by assumption)]; exact h)⟩
    | cases hv
theorem ev_fhs {E : Nat} {ν : ev_M} {ls : List ev_V} {c' s' : Nat} : ∀ l : List Nat, ev_hs l E (fun hp => K hp ls [ev_R 106 0] ν c' s') none = some r → ∃ hp, K hp ls [ev_R 106 0] ν c' s' = some r ∧ ∀ K' : ev_K, K' hp ls [ev_R 106 0] ν c' s' = some r → ev_hs l E (fun hp => K' hp ls [ev_R 106 0] ν c' s') none = some r
  | [], q => by cases q
  | [_], q => by cases q
  | e :: h :: rr, q => by
    have q : (bif Nat.beq e E then K h ls [ev_R 106 0] ν c' s' else ev_hs rr E (fun hp => K hp ls [ev_R 106 0] ν c' s') none) = some r := q
    cases w : Nat.beq e E with
    | true =>
      rw [w] at q
      refine ⟨h, q, fun K' z => ?_⟩
      show (bif Nat.beq e E then K' h ls [ev_R 106 0] ν c' s' else ev_hs rr E (fun hp => K' hp ls [ev_R 106 0] ν c' s') none) = some r
      rw [w]
      exact z
    | false =>
      rw [w] at q
      obtain ⟨hp, a1, a2⟩ := ev_fhs rr q
      refine ⟨hp, a1, fun K' z => ?_⟩
      show (bif Nat.beq e E then K' h ls [ev_R 106 0] ν c' s' else ev_hs rr E (fun hp => K' hp ls [ev_R 106 0] ν c' s') none) = some r
      rw [w]
      exact a2 K' z
theorem ev_ftr {call : ev_F → ev_M → ev_T} {b1 : Bool} {l : List Nat} {E : Nat} {ν : ev_M} {ls : List ev_V} {c' s' : Nat} (hv : (bif b1 then ev_hx l E ν (fun hp => K hp ls [ev_R 106 0] ν c' s') else none) = some r) :
    ∃ uk, ev_uk K r uk ∧ ∀ K' : ev_K, ev_uk K' r uk → (bif b1 then ev_hx l E ν (fun hp => K' hp ls [ev_R 106 0] ν c' s') else none) = some r := by
  cases b1 with
  | false => cases hv
  | true =>
    have hv : ev_hx l E ν (fun hp => K hp ls [ev_R 106 0] ν c' s') = some r := hv
    match l, hv with
    | [], hv => exact ⟨none, trivial, fun K' _ => hv⟩
    | e :: rr, hv =>
      obtain ⟨hp, a1, a2⟩ := ev_fhs (e :: rr) hv
      exact ⟨some (hp, ls, [ev_R 106 0], ν, c', s'), a1, fun K' z => a2 K' z⟩
theorem ev_fmk {r0 i pc len c s c' s' m : Nat} {ls st : List ev_V} {μ : ev_M} (hv : ev_mk r0 i pc len c s c' s' m ls st μ K = some r) : ∃ uk, ev_uk K r uk ∧ ∀ K', ev_uk K' r uk → ev_mk r0 i pc len c s c' s' m ls st μ K' = some r := by
  obtain ⟨n, lk, d, o⟩ := μ
  unfold ev_mk at hv ⊢
  dsimp only at hv ⊢
  obtain ⟨hc, hv⟩ := sd_bif hv
  rw [hc]
  exact ⟨some (_, _, _, _, _, _), hv, fun K' h => h⟩
theorem ev_f4 {call : ev_F → ev_M → ev_T} {m h a b len pc c s : Nat} {tb : List Nat} {ls st : List ev_V} {μ : ev_M} (hv : ev_g4 call m h a b len tb pc ls st μ c s K = some r) :
    ∃ uc uk, ev_uc call uc ∧ ev_uk K r uk ∧ ∀ call' K', ev_uc call' uc → ev_uk K' r uk → ev_g4 call' m h a b len tb pc ls st μ c s K' = some r := by
  have mk0 : ∀ {f : ev_K → ev_T}, (∃ uk, ev_uk K r uk ∧ ∀ K', ev_uk K' r uk → f K' = some r) → ∃ uc uk, ev_uc call uc ∧ ev_uk K r uk ∧ ∀ (call' : ev_F → ev_M → ev_T) (K' : ev_K), ev_uc call' uc → ev_uk K' r uk → f K' = some r := fun {f} ⟨uk, h1, h2⟩ => ⟨[], uk, ev_uc0, h1, fun _ K' _ z => h2 K' z⟩
  unfold ev_g4 at hv ⊢
  split at hv
  · split at hv
    · exact mk0 (ev_fmk hv)
    · cases hv
  · split at hv
    · split at hv
      · obtain ⟨hc, hv⟩ := sd_bif hv
        simp only [hc]
        exact mk0 (ev_fmk hv)
      · cases hv
    · cases hv
  · split at hv
    · split at hv
      · obtain ⟨hc, hv⟩ := sd_bif hv
        simp only [hc]
        exact mk0 (ev_fmk hv)
      · cases hv
    · cases hv
  · split at hv
    · obtain ⟨hc, hv⟩ := sd_bif hv
      simp only [hc]
      exact ⟨[], some (_, _, _, _, _, _), ev_uc0, hv, fun _ _ _ h => h⟩
    · cases hv
  · unfold ev_cl at hv ⊢
    obtain ⟨hc, hv⟩ := sd_bif hv
    simp only [hc, cond_true]
    dsimp only at hv
    cases hcall : call (a, 0, (st.take b).reverse, [], 0, 0) μ with
    | none => rw [hcall] at hv; cases hv
    | some t =>
      rw [hcall] at hv
      unfold ev_bi at hv
      split at hv
      · rename_i x μ1 e
        cases e
        exact ⟨[((_, _), _)], some (_, _, _, _, _, _), ev_uc1 hcall, hv, fun call' K' z1 z2 => by rw [show call' _ _ = _ from z1 _ List.mem_cons_self]; exact z2⟩
      · rename_i E μ1 e
        cases e
        obtain ⟨uk, h1, h2⟩ := ev_ftr (call := call) hv
        exact ⟨[((_, _), _)], uk, ev_uc1 hcall, h1, fun call' K' z1 z2 => by rw [show call' _ _ = _ from z1 _ List.mem_cons_self]; exact h2 K' z2⟩
      · cases hv
  · unfold ev_cl at hv ⊢
    obtain ⟨hc, hv⟩ := sd_bif hv
    simp only [hc, cond_true]
    dsimp only at hv
    cases hcall : call (a, 0, (st.take b).reverse, [], 0, 0) μ with
    | none => rw [hcall] at hv; cases hv
    | some t =>
      rw [hcall] at hv
      unfold ev_bv at hv
      split at hv
      · rename_i μ1 e
        cases e
        exact ⟨[((_, _), _)], some (_, _, _, _, _, _), ev_uc1 hcall, hv, fun call' K' z1 z2 => by rw [show call' _ _ = _ from z1 _ List.mem_cons_self]; exact z2⟩
      · rename_i E μ1 e
        cases e
        obtain ⟨uk, h1, h2⟩ := ev_ftr (call := call) hv
        exact ⟨[((_, _), _)], uk, ev_uc1 hcall, h1, fun call' K' z1 z2 => by rw [show call' _ _ = _ from z1 _ List.mem_cons_self]; exact h2 K' z2⟩
      · cases hv
  · unfold ev_cl at hv ⊢
    obtain ⟨hc, hv⟩ := sd_bif hv
    simp only [hc, cond_true]
    dsimp only at hv
    cases hcall : call (a, 0, (st.take b).reverse, [], 0, 0) μ with
    | none => rw [hcall] at hv; cases hv
    | some t =>
      rw [hcall] at hv
      unfold ev_br at hv
      split at hv
      · rename_i x y μ1 e
        cases e
        exact ⟨[((_, _), _)], some (_, _, _, _, _, _), ev_uc1 hcall, hv, fun call' K' z1 z2 => by rw [show call' _ _ = _ from z1 _ List.mem_cons_self]; exact z2⟩
      · rename_i E μ1 e
        cases e
        obtain ⟨uk, h1, h2⟩ := ev_ftr (call := call) hv
        exact ⟨[((_, _), _)], uk, ev_uc1 hcall, h1, fun call' K' z1 z2 => by rw [show call' _ _ = _ from z1 _ List.mem_cons_self]; exact h2 K' z2⟩
      · cases hv
  · unfold ev_cl at hv ⊢
    obtain ⟨hc, hv⟩ := sd_bif hv
    simp only [hc, cond_true]
    dsimp only at hv
    cases hcall : call (a, 0, (st.take b).reverse, [], 0, 0) μ with
    | none => rw [hcall] at hv; cases hv
    | some t =>
      rw [hcall] at hv
      unfold ev_bd at hv
      split at hv
      · rename_i x μ1 e
        cases e
        exact ⟨[((_, _), _)], some (_, _, _, _, _, _), ev_uc1 hcall, hv, fun call' K' z1 z2 => by rw [show call' _ _ = _ from z1 _ List.mem_cons_self]; exact z2⟩
      · rename_i E μ1 e
        cases e
        obtain ⟨uk, h1, h2⟩ := ev_ftr (call := call) hv
        exact ⟨[((_, _), _)], uk, ev_uc1 hcall, h1, fun call' K' z1 z2 => by rw [show call' _ _ = _ from z1 _ List.mem_cons_self]; exact h2 K' z2⟩
      · cases hv
  all_goals
    obtain ⟨n, lk, d, o⟩ := μ
    try dsimp only at hv ⊢
    try simp only [Bool.cond_eq_ite] at hv ⊢
    repeat' split at hv
    all_goals first
      | exact ⟨[], some (_, _, _, _, _, _), ev_uc0, hv, fun _ K' _ h => by simp_all [ev_uk, -Int32.not_lt, -Int32.not_le]⟩
      | exact ⟨[], none, ev_uc0, trivial, fun _ _ _ _ => by simp_all [ev_uk, -Int32.not_lt, -Int32.not_le]⟩
      | cases hv
theorem ev_fmw {r0 pc len c s c' s' m : Nat} {e' : Nat → Nat → Nat → Int32} {ls st : List ev_V} {μ : ev_M} (hv : ev_mw r0 e' pc len c s c' s' m ls st μ K = some r) : ∃ uk, ev_uk K r uk ∧ ∀ K', ev_uk K' r uk → ev_mw r0 e' pc len c s c' s' m ls st μ K' = some r := by
  obtain ⟨n, lk, d, w, t, e, q⟩ := μ
  unfold ev_mw at hv ⊢
  dsimp only at hv ⊢
  obtain ⟨hc, hv⟩ := sd_bif hv
  rw [hc]
  exact ⟨some (_, _, _, _, _, _), hv, fun K' h => h⟩
theorem ev_f7 {call : ev_F → ev_M → ev_T} {m h a b len pc c s : Nat} {x : Int32} {tb : List Nat} {ls st : List ev_V} {μ : ev_M} (hv : ev_g7 call m h a b len x tb pc ls st μ c s K = some r) :
    ∃ uc uk, ev_uc call uc ∧ ev_uk K r uk ∧ ∀ call' K', ev_uc call' uc → ev_uk K' r uk → ev_g7 call' m h a b len x tb pc ls st μ c s K' = some r := by
  have mk0 : ∀ {f : ev_K → ev_T}, (∃ uk, ev_uk K r uk ∧ ∀ K', ev_uk K' r uk → f K' = some r) → ∃ uc uk, ev_uc call uc ∧ ev_uk K r uk ∧ ∀ (call' : ev_F → ev_M → ev_T) (K' : ev_K), ev_uc call' uc → ev_uk K' r uk → f K' = some r := fun {f} ⟨uk, h1, h2⟩ => ⟨[], uk, ev_uc0, h1, fun _ K' _ z => h2 K' z⟩
  obtain ⟨n, lk, d, w, t, e, q⟩ := μ
  unfold ev_g7 at hv ⊢
  dsimp only at hv ⊢
  split at hv
  · -- getfield
    split at hv
    · rename_i r0 i0 rest
      obtain ⟨hc, hv⟩ := sd_bif hv
      cases hf : ev_lf r0 b with
      | true =>
        rw [hf] at hv
        obtain ⟨j, hj, hv⟩ := sd_lqe hv
        try simp only [hc, hf, hj]
        exact mk0 ⟨some (_, _, _, _, _, _), hv, fun K' h => h⟩
      | false =>
        rw [hf] at hv
        try simp only [hc, hf]
        exact mk0 ⟨some (_, _, _, _, _, _), hv, fun K' h => h⟩
    · cases hv
  · split at hv
    · obtain ⟨hc, hv⟩ := sd_bif hv
      try simp only [hc]
      exact mk0 ⟨some (_, _, _, _, _, _), hv, fun K' h => h⟩
    · obtain ⟨hc, hv⟩ := sd_bif hv
      try simp only [hc]
      exact mk0 ⟨some (_, _, _, _, _, _), hv, fun K' h => h⟩
    · cases hv
  · split at hv
    · split at hv
      all_goals first
        | cases hv
        | (rename_i hkn
           obtain ⟨hc1, hv1⟩ := sd_bif hv
           obtain ⟨hc2, hv2⟩ := sd_bif hv1
           try simp only [hkn, hc1, hc2]
           exact mk0 ⟨some (_, _, _, _, _, _), hv2, fun K' h => h⟩)
    · cases hv
  · split at hv
    · split at hv
      · rename_i hkn
        obtain ⟨hc1, hv1⟩ := sd_bif hv
        obtain ⟨j, hj, hv2⟩ := sd_lqe hv1
        try simp only [hkn, hc1, hj]
        exact mk0 ⟨some (_, _, _, _, _, _), hv2, fun K' h => h⟩
      · cases hv
    · cases hv
  · split at hv
    · split at hv
      all_goals first
        | cases hv
        | (rename_i hkn
           obtain ⟨hc1, hv1⟩ := sd_bif hv
           obtain ⟨hc2, hv2⟩ := sd_bif hv1
           try simp only [hkn, hc1, hc2]
           exact mk0 ⟨some (_, _, _, _, _, _), hv2, fun K' h => h⟩)
    · cases hv
  · split at hv
    · split at hv
      · rename_i hkn
        obtain ⟨hc1, hv1⟩ := sd_bif hv
        try simp only [hkn, hc1]
        exact mk0 ⟨some (_, _, _, _, _, _), hv1, fun K' h => h⟩
      · cases hv
    · cases hv
  · split at hv
    · split at hv
      all_goals first
        | cases hv
        | (rename_i hkn
           try simp only [hkn]
           exact mk0 ⟨some (_, _, _, _, _, _), hv, fun K' h => h⟩)
    · cases hv
  · exact mk0 ⟨some (_, _, _, _, _, _), hv, fun K' h => h⟩
  · exact mk0 ⟨some (_, _, _, _, _, _), hv, fun K' h => h⟩
  · exact mk0 (ev_fmw hv)
  · split at hv
    · obtain ⟨hc, hv⟩ := sd_bif hv
      simp only [hc, cond_true]
      cases h2 : Nat.beq a 2 with
      | true =>
        rw [h2] at hv
        obtain ⟨hc2, hv⟩ := sd_bif hv
        try simp only [hc2]
        exact mk0 (ev_fmw hv)
      | false =>
        rw [h2] at hv
        obtain ⟨hc2, hv⟩ := sd_bif hv
        try simp only [hc2]
        exact mk0 (ev_fmw hv)
    · cases hv
  · split at hv
    · obtain ⟨hc, hv⟩ := sd_bif hv
      try simp only [hc]
      exact mk0 (ev_fmw hv)
    · cases hv
  · split at hv
    · obtain ⟨hc, hv⟩ := sd_bif hv
      try simp only [hc]
      exact mk0 (ev_fmw hv)
    · cases hv
  · split at hv
    · obtain ⟨hc, hv⟩ := sd_bif hv
      try simp only [hc]
      exact mk0 ⟨some (_, _, _, _, _, _), hv, fun K' h => h⟩
    · cases hv
  · split at hv
    · obtain ⟨hc, hv⟩ := sd_bif hv
      try simp only [hc]
      split at hv
      · rename_i h2
        try simp only [h2]
        split at hv
        · rename_i h3
          obtain ⟨hc2, hv⟩ := sd_bif hv
          try simp only [h3, hc2]
          exact mk0 ⟨some (_, _, _, _, _, _), hv, fun K' h => h⟩
        · rename_i h3
          obtain ⟨hc2, hv⟩ := sd_bif hv
          try simp only [h3, hc2]
          exact mk0 ⟨some (_, _, _, _, _, _), hv, fun K' h => h⟩
        · cases hv
      · rename_i h2
        obtain ⟨hc2, hv⟩ := sd_bif hv
        try simp only [h2, hc2]
        exact mk0 ⟨some (_, _, _, _, _, _), hv, fun K' h => h⟩
      · rename_i h2
        obtain ⟨hc2, hv⟩ := sd_bif hv
        try simp only [h2, hc2]
        exact mk0 ⟨some (_, _, _, _, _, _), hv, fun K' h => h⟩
      · cases hv
    · cases hv
  · unfold ev_cl at hv ⊢
    obtain ⟨hc, hv⟩ := sd_bif hv
    simp only [hc, cond_true]
    dsimp only at hv
    cases hcall : call (a, 0, (st.take b).reverse, [], 0, 0) (n, lk, d, w, t, e, q) with
    | none => rw [hcall] at hv; cases hv
    | some t0 =>
      rw [hcall] at hv
      unfold ev_bi at hv
      split at hv
      · rename_i x0 μ1 e0
        cases e0
        cases hg : call (x.toNatClampNeg, 0, ev_ga ((st.take b).reverse), [], 0, 0) μ1 with
        | none => dsimp only at hv; rw [hg] at hv; cases hv
        | some t2 =>
          dsimp only at hv
          rw [hg] at hv
          exact ⟨[((_, _), _), ((_, _), _)], some (_, _, _, _, _, _), ev_uc2 hcall hg, hv, fun call' K' z1 z2 => by
            rw [show call' _ _ = _ from z1 _ List.mem_cons_self]
            dsimp only [ev_bi]
            rw [show call' (x.toNatClampNeg, 0, ev_ga ((st.take b).reverse), [], 0, 0) μ1 = some t2 from z1 _ (List.mem_cons_of_mem _ List.mem_cons_self)]
            exact z2⟩
      · cases hv
      · cases hv
  · unfold ev_cl at hv ⊢
    obtain ⟨hc, hv⟩ := sd_bif hv
    simp only [hc, cond_true]
    dsimp only at hv
    cases hcall : call (a, 0, (st.take b).reverse, [], 0, 0) (n, lk, d, w, t, e, q) with
    | none => rw [hcall] at hv; cases hv
    | some t0 =>
      rw [hcall] at hv
      unfold ev_bv at hv
      split at hv
      · rename_i μ1 e0
        cases e0
        cases hg : call (x.toNatClampNeg, 0, ev_ga ((st.take b).reverse), [], 0, 0) (μ1.1 + 1, μ1.2) with
        | none => dsimp only at hv; rw [hg] at hv; cases hv
        | some t2 =>
          dsimp only at hv
          rw [hg] at hv
          exact ⟨[((_, _), _), ((_, _), _)], some (_, _, _, _, _, _), ev_uc2 hcall hg, hv, fun call' K' z1 z2 => by
            rw [show call' _ _ = _ from z1 _ List.mem_cons_self]
            dsimp only [ev_bv]
            rw [show call' (x.toNatClampNeg, 0, ev_ga ((st.take b).reverse), [], 0, 0) (μ1.1 + 1, μ1.2) = some t2 from z1 _ (List.mem_cons_of_mem _ List.mem_cons_self)]
            exact z2⟩
      · cases hv
      · cases hv
  · unfold ev_cl at hv ⊢
    obtain ⟨hc, hv⟩ := sd_bif hv
    simp only [hc, cond_true]
    dsimp only at hv
    cases hcall : call (a, 0, (st.take b).reverse, [], 0, 0) (n, lk, d, w, t, e, q) with
    | none => rw [hcall] at hv; cases hv
    | some t0 =>
      rw [hcall] at hv
      unfold ev_bd at hv
      split at hv
      · rename_i x0 μ1 e0
        cases e0
        cases hg : call (x.toNatClampNeg, 0, ev_ga ((st.take b).reverse), [], 0, 0) μ1 with
        | none => dsimp only at hv; rw [hg] at hv; cases hv
        | some t2 =>
          dsimp only at hv
          rw [hg] at hv
          exact ⟨[((_, _), _), ((_, _), _)], some (_, _, _, _, _, _), ev_uc2 hcall hg, hv, fun call' K' z1 z2 => by
            rw [show call' _ _ = _ from z1 _ List.mem_cons_self]
            dsimp only [ev_bd]
            rw [show call' (x.toNatClampNeg, 0, ev_ga ((st.take b).reverse), [], 0, 0) μ1 = some t2 from z1 _ (List.mem_cons_of_mem _ List.mem_cons_self)]
            exact z2⟩
      · cases hv
      · cases hv
  · unfold ev_cl at hv ⊢
    obtain ⟨hc, hv⟩ := sd_bif hv
    simp only [hc, cond_true]
    dsimp only at hv
    cases hcall : call (a, 0, (st.take b).reverse, [], 0, 0) (n, lk, d, w, t, e, q) with
    | none => rw [hcall] at hv; cases hv
    | some t0 =>
      rw [hcall] at hv
      unfold ev_br at hv
      split at hv
      · rename_i x0 y0 μ1 e0
        cases e0
        obtain ⟨hc2, hv⟩ := sd_bif hv
        exact ⟨[((_, _), _)], some (_, _, _, _, _, _), ev_uc1 hcall, hv, fun call' K' z1 z2 => by
          rw [show call' _ _ = _ from z1 _ List.mem_cons_self]
          show (bif _ then _ else none) = _
          rw [hc2]
          exact z2⟩
      · cases hv
      · cases hv
  · split at hv
    · obtain ⟨hc, hv⟩ := sd_bif hv
      try simp only [hc]
      exact mk0 ⟨some (_, _, _, _, _, _), hv, fun K' h => h⟩
    · cases hv
  · split at hv
    · rename_i r0 i0 r1 i1 rest
      obtain ⟨hc, hv⟩ := sd_bif hv
      cases h2 : Nat.beq i0 i1 with
      | true =>
        rw [h2] at hv
        try simp only [hc, h2]
        exact mk0 ⟨some (_, _, _, _, _, _), hv, fun K' h => h⟩
      | false =>
        rw [h2] at hv
        try simp only [hc, h2]
        exact mk0 ⟨some (_, _, _, _, _, _), hv, fun K' h => h⟩
    · cases hv
  · split at hv
    · rename_i r0 i0 r1 i1 rest
      obtain ⟨hc, hv⟩ := sd_bif hv
      cases h2 : Nat.beq i0 i1 with
      | true =>
        rw [h2] at hv
        try simp only [hc, h2]
        exact mk0 ⟨some (_, _, _, _, _, _), hv, fun K' h => h⟩
      | false =>
        rw [h2] at hv
        try simp only [hc, h2]
        exact mk0 ⟨some (_, _, _, _, _, _), hv, fun K' h => h⟩
    · cases hv
  · split at hv
    · rename_i r0 i0 rest
      cases h2 : Nat.beq r0 109 with
      | true =>
        rw [h2] at hv
        try simp only [h2]
        exact mk0 ⟨some (_, _, _, _, _, _), hv, fun K' h => h⟩
      | false =>
        rw [h2] at hv
        obtain ⟨hc, hv⟩ := sd_bif hv
        try simp only [h2, hc]
        exact mk0 ⟨some (_, _, _, _, _, _), hv, fun K' h => h⟩
    · cases hv
  · split at hv
    · rename_i r0 i0 rest
      cases h2 : Nat.beq r0 109 with
      | true =>
        rw [h2] at hv
        try simp only [h2]
        exact mk0 ⟨some (_, _, _, _, _, _), hv, fun K' h => h⟩
      | false =>
        rw [h2] at hv
        obtain ⟨hc, hv⟩ := sd_bif hv
        try simp only [h2, hc]
        exact mk0 ⟨some (_, _, _, _, _, _), hv, fun K' h => h⟩
    · cases hv
  · split at hv
    · rename_i y r0 i0 rest
      cases h2 : Nat.beq r0 105 with
      | true => rw [h2] at hv; cases hv
      | false =>
        rw [h2] at hv
        try simp only [h2]
        exact mk0 ⟨some (_, _, _, _, _, _), hv, fun K' h => h⟩
    · cases hv
  · split at hv
    · obtain ⟨hc, hv⟩ := sd_bif hv
      try simp only [hc]
      exact mk0 ⟨none, trivial, fun _ _ => hv⟩
    · cases hv
  · cases hv
theorem ev_fex {call : ev_F → ev_M → ev_T} {m pc c s : Nat} {ins : ev_C} {ls st : List ev_V} {μ : ev_M} (hv : ev_ex call m K ins pc ls st μ c s = some r) :
    ∃ uc uk, ev_uc call uc ∧ ev_uk K r uk ∧ ∀ call' K', ev_uc call' uc → ev_uk K' r uk → ev_ex call' m K' ins pc ls st μ c s = some r := by
  obtain ⟨q, gp, h, a, b, len, x, tb⟩ := ins
  have mk0 : ∀ {f : ev_K → ev_T}, (∃ uk, ev_uk K r uk ∧ ∀ K', ev_uk K' r uk → f K' = some r) → ∃ uc uk, ev_uc call uc ∧ ev_uk K r uk ∧ ∀ (call' : ev_F → ev_M → ev_T) (K' : ev_K), ev_uc call' uc → ev_uk K' r uk → f K' = some r := fun {f} ⟨uk, h1, h2⟩ => ⟨[], uk, ev_uc0, h1, fun _ K' _ z => h2 K' z⟩
  unfold ev_ex at hv ⊢
  dsimp only at hv ⊢
  split at hv
  · exact mk0 (ev_f0 hv)
  · exact mk0 (ev_f1 hv)
  · exact mk0 (ev_f2 hv)
  · exact mk0 (ev_f3 hv)
  · exact ev_f4 hv
  · exact mk0 (ev_f5 hv)
  · exact mk0 (ev_f6 hv)
  · exact ev_f7 hv
  · cases hv
end FA
/-! THE LIMIT, 2 -/
theorem ev_ctt (q : Nat) (ls : List ev_V) : ev_ct q (ev_ct q ls) = ev_ct q ls := by
  cases q with
  | zero => rfl
  | succ k => show (ls.take k).take k = ls.take k; rw [List.take_take, Nat.min_self]
abbrev ev_U : Type := (ev_F × ev_M) × (ev_O × ev_M)
/-- what a recursion was asked for, with its answers -/
def ev_us (rec : ev_F → ev_M → ev_T) (us : List ev_U) : Prop := ∀ u ∈ us, rec u.1.1 u.1.2 = some u.2
theorem ev_us_c {rec : ev_F → ev_M → ev_T} {uc us : List ev_U} (h : ev_us rec (uc ++ us)) : ev_uc rec uc ∧ ev_us rec us := ⟨fun u hu => h u (List.mem_append_left _ hu), fun u hu => h u (List.mem_append_right _ hu)⟩
theorem ev_us_m {rec : ev_F → ev_M → ev_T} {uc us : List ev_U} (h1 : ev_uc rec uc) (h2 : ev_us rec us) : ev_us rec (uc ++ us) := fun u hu => by
  rcases List.mem_append.mp hu with h | h
  · exact h1 u h
  · exact h2 u h
theorem ev_fst {rec : ev_F → ev_M → ev_T} {f : ev_F} {μ : ev_M} {r : ev_O × ev_M} (hv : ev_st rec f μ = some r) : ∃ us, ev_us rec us ∧ ∀ rec', ev_us rec' us → ev_st rec' f μ = some r := by
  obtain ⟨m, pc, ls, st, c, s⟩ := f
  unfold ev_st at hv ⊢
  dsimp only at hv ⊢
  split at hv
  · cases hv
  · rename_i ins hins
    obtain ⟨uc, uk, h1, h2, h3⟩ := ev_fex hv
    refine ⟨uc ++ (uk.map fun u => (((m, u.1, u.2.1, u.2.2.1, u.2.2.2.2.1, u.2.2.2.2.2), u.2.2.2.1), r)).toList, ev_us_m h1 (fun u hu => ?_), fun rec' h => ?_⟩
    · cases uk with
      | none => simp at hu
      | some v => simp at hu; rw [hu]; exact h2
    · obtain ⟨q1, q2⟩ := ev_us_c h
      refine h3 rec' _ q1 ?_
      cases uk with
      | none => trivial
      | some v => exact q2 (((m, v.1, v.2.1, v.2.2.1, v.2.2.2.2.1, v.2.2.2.2.2), v.2.2.2.1), r) (by simp)
theorem ev_up : ∀ (n : Nat) {f : ev_F} {μ : ev_M} {r : ev_O × ev_M}, ev_ev n f μ = some r → ev_ev (n + 1) f μ = some r
  | 0, _, _, _, h => by cases h
  | n + 1, f, μ, r, h => by
    obtain ⟨us, h1, h2⟩ := ev_fst (rec := ev_ev n) h
    exact h2 (ev_ev (n + 1)) fun u hu => ev_up n (h1 u hu)
theorem ev_fle {n k : Nat} (h : n ≤ k) {f : ev_F} {μ : ev_M} {r : ev_O × ev_M} (hv : ev_ev n f μ = some r) : ev_ev k f μ = some r := by
  induction h with
  | refl => exact hv
  | step _ ih => exact ev_up _ ih
noncomputable def EV (f : ev_F) (μ : ev_M) : ev_T := @dite _ (∃ r : ev_O × ev_M, ∃ n, ev_ev n f μ = some r) (Classical.propDecidable _) (fun h => some h.choose) (fun _ => none)
theorem EV_in {n : Nat} {f : ev_F} {μ : ev_M} {r : ev_O × ev_M} (h : ev_ev n f μ = some r) : EV f μ = some r := by
  have hx : ∃ r : ev_O × ev_M, ∃ n, ev_ev n f μ = some r := ⟨r, n, h⟩
  unfold EV
  rw [dif_pos hx]
  obtain ⟨k, hk⟩ := hx.choose_spec
  have a := ev_fle (Nat.le_max_left n k) h
  have b := ev_fle (Nat.le_max_right n k) hk
  rw [a] at b
  exact b.symm ▸ rfl
theorem EV_out {f : ev_F} {μ : ev_M} {r : ev_O × ev_M} (h : EV f μ = some r) : ∃ n, ev_ev n f μ = some r := by
  unfold EV at h
  split at h
  · rename_i hx
    cases h
    exact hx.choose_spec
  · cases h
theorem EV_us {us : List ev_U} (h : ev_us EV us) : ∃ n, ev_us (ev_ev n) us := by
  induction us with
  | nil => exact ⟨0, fun u hu => (nomatch hu)⟩
  | cons u us ih =>
    obtain ⟨n, hn⟩ := ih (fun v hv => h v (List.mem_cons_of_mem _ hv))
    obtain ⟨k, hk⟩ := EV_out (h u List.mem_cons_self)
    refine ⟨max n k, fun v hv => ?_⟩
    rcases List.mem_cons.mp hv with e | e
    · rw [e]; exact ev_fle (Nat.le_max_right n k) hk
    · exact ev_fle (Nat.le_max_left n k) (hn v e)
/-- the uses of a block -/
theorem ev_fit {m : Nat} {rec : ev_F → ev_M → ev_T} {r : ev_O × ev_M} : ∀ (k : Nat) {pc c s : Nat} {ls st : List ev_V} {μ : ev_M}, ev_it m rec k pc ls st μ c s = some r → ∃ us, ev_us rec us ∧ ∀ rec', ev_us rec' us → ev_it m rec' k pc ls st μ c s = some r
  | 0, pc, c, s, ls, st, μ, hv => ⟨[(((m, pc, ls, st, c, s), μ), r)], fun u hu => by rw [List.mem_singleton.mp hu]; exact hv, fun rec' h => h _ List.mem_cons_self⟩
  | k + 1, pc, c, s, ls, st, μ, hv => by
    have hv : (match ev_code m pc with
      | none => none
      | some ins => bif Nat.beq ins.1 0 then ev_ex rec m (ev_it m rec k) ins pc ls st μ c s else rec (m, pc, ev_ct ins.1 ls, st, c, s) μ) = some r := hv
    split at hv
    · cases hv
    · rename_i ins hins
      have goal : ∀ rec', ev_it m rec' (k + 1) pc ls st μ c s = (bif Nat.beq ins.1 0 then ev_ex rec' m (ev_it m rec' k) ins pc ls st μ c s else rec' (m, pc, ev_ct ins.1 ls, st, c, s) μ) := fun rec' => by
        show (match ev_code m pc with
          | none => none
          | some ins => bif Nat.beq ins.1 0 then ev_ex rec' m (ev_it m rec' k) ins pc ls st μ c s else rec' (m, pc, ev_ct ins.1 ls, st, c, s) μ) = _
        rw [hins]
      cases hq : Nat.beq ins.1 0 with
      | false =>
        rw [hq] at hv
        refine ⟨[(((m, pc, ev_ct ins.1 ls, st, c, s), μ), r)], fun u hu => by rw [List.mem_singleton.mp hu]; exact hv, fun rec' h => ?_⟩
        rw [goal, hq]
        exact h (((m, pc, ev_ct ins.1 ls, st, c, s), μ), r) List.mem_cons_self
      | true =>
        rw [hq] at hv
        obtain ⟨uc, uk, h1, h2, h3⟩ := ev_fex hv
        cases uk with
        | none =>
          refine ⟨uc ++ [], ev_us_m h1 (fun u hu => (nomatch hu)), fun rec' h => ?_⟩
          rw [goal, hq]
          exact h3 rec' _ (ev_us_c h).1 trivial
        | some v =>
          obtain ⟨us, g1, g2⟩ := ev_fit k (show ev_it m rec k v.1 v.2.1 v.2.2.1 v.2.2.2.1 v.2.2.2.2.1 v.2.2.2.2.2 = some r from h2)
          refine ⟨uc ++ us, ev_us_m h1 g1, fun rec' h => ?_⟩
          rw [goal, hq]
          exact h3 rec' _ (ev_us_c h).1 (g2 rec' (ev_us_c h).2)
theorem ev_cte {n m pc c s q : Nat} {ls st : List ev_V} {μ : ev_M} {ins : ev_C} {r : ev_O × ev_M} (hins : ev_code m pc = some ins) (h : ev_ev n (m, pc, ev_ct ins.1 ls, st, c, s) μ = some r) : ev_ev n (m, pc, ls, st, c, s) μ = some r := by
  cases n with
  | zero => cases h
  | succ n =>
    have e : ∀ l, ev_ev (n + 1) (m, pc, l, st, c, s) μ = ev_ex (ev_ev n) m (fun pc' ls' st' μ' c' s' => ev_ev n (m, pc', ls', st', c', s') μ') ins pc (ev_ct ins.1 l) st μ c s := fun l => by
      show (match ev_code m pc with
        | none => none
        | some ins => ev_ex (ev_ev n) m (fun pc' ls' st' μ' c' s' => ev_ev n (m, pc', ls', st', c', s') μ') ins pc (ev_ct ins.1 l) st μ c s) = _
      rw [hins]
    rw [e] at h ⊢
    rw [ev_ctt] at h
    exact h
/-- a block is a run -/
theorem ev_itr {m n : Nat} {r : ev_O × ev_M} : ∀ (k : Nat) {pc c s : Nat} {ls st : List ev_V} {μ : ev_M}, ev_it m (ev_ev n) k pc ls st μ c s = some r → ev_ev (n + k) (m, pc, ls, st, c, s) μ = some r
  | 0, _, _, _, _, _, _, h => h
  | k + 1, pc, c, s, ls, st, μ, hv => by
    have hv : (match ev_code m pc with
      | none => none
      | some ins => bif Nat.beq ins.1 0 then ev_ex (ev_ev n) m (ev_it m (ev_ev n) k) ins pc ls st μ c s else ev_ev n (m, pc, ev_ct ins.1 ls, st, c, s) μ) = some r := hv
    split at hv
    · cases hv
    · rename_i ins hins
      cases hq : Nat.beq ins.1 0 with
      | false =>
        rw [hq] at hv
        exact ev_fle (by omega) (ev_cte (q := 0) hins hv)
      | true =>
        rw [hq] at hv
        have e0 : ins.1 = 0 := Nat.eq_of_beq_eq_true hq
        obtain ⟨uc, uk, h1, h2, h3⟩ := ev_fex hv
        have goal : ev_ev (n + (k + 1)) (m, pc, ls, st, c, s) μ = ev_ex (ev_ev (n + k)) m (fun pc' ls' st' μ' c' s' => ev_ev (n + k) (m, pc', ls', st', c', s') μ') ins pc (ev_ct ins.1 ls) st μ c s := by
          show (match ev_code m pc with
            | none => none
            | some ins => ev_ex (ev_ev (n + k)) m (fun pc' ls' st' μ' c' s' => ev_ev (n + k) (m, pc', ls', st', c', s') μ') ins pc (ev_ct ins.1 ls) st μ c s) = _
          rw [hins]
        rw [goal, e0]
        refine h3 _ _ ?_ ?_
        · exact fun u hu => ev_fle (Nat.le_add_right n k) (h1 u hu)
        · cases uk with
          | none => trivial
          | some v => exact ev_itr k h2
theorem EV_bk {k : Nat} {f : ev_F} {μ : ev_M} {r : ev_O × ev_M} (hv : ev_bk k EV f μ = some r) : EV f μ = some r := by
  obtain ⟨m, pc, ls, st, c, s⟩ := f
  have hv : (match ev_code m pc with
    | none => none
    | some ins => ev_ex EV m (ev_it m EV k) ins pc (ev_ct ins.1 ls) st μ c s) = some r := hv
  split at hv
  · cases hv
  · rename_i ins hins
    obtain ⟨uc, uk, h1, h2, h3⟩ := ev_fex hv
    obtain ⟨us, g1, g2⟩ : ∃ us, ev_us EV us ∧ ∀ rec', ev_us rec' us → ev_uk (ev_it m rec' k) r uk := by
      cases uk with
      | none => exact ⟨[], fun u hu => (nomatch hu), fun _ _ => trivial⟩
      | some v => exact ev_fit k (show ev_it m EV k v.1 v.2.1 v.2.2.1 v.2.2.2.1 v.2.2.2.2.1 v.2.2.2.2.2 = some r from h2)
    obtain ⟨n, hn⟩ := EV_us (ev_us_m h1 g1)
    obtain ⟨q1, q2⟩ := ev_us_c hn
    refine EV_in (n := n + k + 1) ?_
    show (match ev_code m pc with
      | none => none
      | some ins => ev_ex (ev_ev (n + k)) m (fun pc' ls' st' μ' c' s' => ev_ev (n + k) (m, pc', ls', st', c', s') μ') ins pc (ev_ct ins.1 ls) st μ c s) = some r
    rw [hins]
    refine h3 _ _ ?_ ?_
    · exact fun u hu => ev_fle (Nat.le_add_right n k) (q1 u hu)
    · have := g2 _ q2
      cases uk with
      | none => trivial
      | some v => exact ev_itr k this
