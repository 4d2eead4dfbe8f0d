/-! THE LAW'S METHODS, 25: what the reference makes of a text that grows -/
/-- a text that begins with L is read so far -/
def PRS (L : List Int32) (t s a : Nat → Int32) (m : Int32) (C : Nat) : Prop := ∀ lk b len, LK lk → TX b 0 L → L.length ≤ len → RS lk b len L.length t s a m C
theorem TX_at {b : Nat → Int32} {L M : List Int32} (h : TX b 0 (L ++ M)) : TX b 0 L ∧ TX b L.length M := by
  have := TX_app.mp h
  rwa [Nat.zero_add] at this
theorem TX_last {b : Nat → Int32} {L : List Int32} {N : Nat} {x : Int32} (h : TX b N (L ++ [x])) : b (N + L.length) = x := (TX_cons (TX_app.mp h).2).1
theorem sbl_35 : sbl 35 = sbl 24 ++ [32] := rfl
theorem sbl_36 : sbl 36 = sbl 25 ++ [32] := rfl
theorem sbl_44 : sbl 44 = sbl 27 ++ [59] := rfl
theorem sbl_45 : sbl 45 = sbl 26 ++ [32] := rfl
theorem sbl_set : ∀ k, k < 7 → sbl (37 + k) = sbl (28 + k) := by decide +kernel
theorem dg_le (v : Nat) : (dg v).length ≤ 2 := by
  rw [dg_len]
  split <;> omega
/-- a further statement S, read by the reference as st says -/
theorem PRS_st {L S : List Int32} {t s a : Nat → Int32} {m m2 : Int32} {C C2 : Nat} {t2 s2 a2 : (Nat → Int32) → Nat → Int32} (h : PRS L t s a m C) (hk : ∀ b len, TX b L.length (S ++ [59]) → L.length + S.length + 1 ≤ len → tk_k b len L.length ≠ 0)
    (hst : ∀ lk b len, LK lk → TX b L.length (S ++ [59]) → L.length + S.length + 1 ≤ len → ∀ n o d' t' s' a', RD d' b len L.length t' s' a' m C → (∀ k, k < 132 → t' k = t k) → ∃ d1, EV (149, 0, [ev_R 44 0], [], 0, 0) (n, lk, d', o) = some (.inl (some (ev_I 1)), (n, lk, d1, o)) ∧ KT d' d1 ∧ RD d1 b len (L.length + S.length) (t2 t') (s2 s') (a2 a') m2 C2)
    (ht : ∀ t', (∀ k, k < 132 → t' k = t k) → ∀ k, k < 132 → t2 t' k = t2 t k) (hs : ∀ s', (∀ k, k < 8 → s' k = s k) → ∀ k, k < 8 → s2 s' k = s2 s k) (ha : ∀ a', (∀ k, k < 3 * C → a' k = a k) → ∀ k, k < 3 * C2 → a2 a' k = a2 a k) :
    PRS (L ++ (S ++ [59])) (t2 t) (s2 s) (a2 a) m2 C2 := fun lk b len hl hx hlen => by
  obtain ⟨x1, x2⟩ := TX_at hx
  have e : (L ++ (S ++ [59])).length = L.length + S.length + 1 := by
    rw [List.length_append, List.length_append]
    rfl
  rw [e] at hlen ⊢
  exact RS_st hl (h lk b len hl x1 (by omega)) (hk b len x2 hlen) (TX_last x2) (by omega) (hst lk b len hl x2 hlen) ht hs ha
theorem tk_k1 {b : Nat → Int32} {len p j : Nat} (h : tk_is b len p j) : tk_k b len p ≠ 0 := by
  rw [h.1]
  decide
theorem PRS_weak {L : List Int32} {t s a : Nat → Int32} {m : Int32} {C B R x r own fr : Nat} (h : PRS L t s a m C) (hB : t 0 = Int32.ofNat B) (hR : t 1 = Int32.ofNat R) (hB1 : 1 ≤ B) (hR1 : 1 ≤ R) (hB4 : B ≤ 4) (hR16 : R ≤ 16) (hb : x < B) (hr : r < R) (ho1 : 1 ≤ own) (ho : own < 100) (hf : fr < 100) (ht : t (4 + 2 * (16 * x + r)) ≤ 0) :
    PRS (L ++ sbl 36 ++ dg x ++ [32] ++ dg r ++ [32] ++ dg own ++ [32] ++ dg fr ++ [59]) (ev_u1 (ev_u1 t (4 + 2 * (16 * x + r)) (Int32.ofNat own)) (4 + 2 * (16 * x + r) + 1) (Int32.ofNat fr)) s a m C := by
  have e : L ++ sbl 36 ++ dg x ++ [32] ++ dg r ++ [32] ++ dg own ++ [32] ++ dg fr ++ [59] = L ++ ((sbl 25 ++ (32 :: dg x ++ (32 :: dg r ++ (32 :: dg own ++ (32 :: dg fr))))) ++ [59]) := by
    rw [sbl_36]
    simp only [List.append_assoc, List.cons_append, List.nil_append]
  have eS : ∀ T : List Int32, (sbl 25 ++ (32 :: dg x ++ (32 :: dg r ++ (32 :: dg own ++ (32 :: dg fr))))) ++ (59 :: T) = sbl 25 ++ (32 :: dg x ++ (32 :: dg r ++ (32 :: dg own ++ (32 :: dg fr ++ (59 :: T))))) := fun T => by
    simp only [List.append_assoc, List.cons_append]
  have el : (sbl 25 ++ (32 :: dg x ++ (32 :: dg r ++ (32 :: dg own ++ (32 :: dg fr))))).length = ev_sl 25 + 1 + (dg x).length + 1 + (dg r).length + 1 + (dg own).length + 1 + (dg fr).length := by
    simp only [List.length_append, List.length_cons, sbl_len]
    omega
  rw [e]
  refine PRS_st (t2 := fun t => ev_u1 (ev_u1 t (4 + 2 * (16 * x + r)) (Int32.ofNat own)) (4 + 2 * (16 * x + r) + 1) (Int32.ofNat fr)) (s2 := fun s => s) (a2 := fun a => a) h (fun b len hx hlen => ?_) (fun lk b len hl hx hlen n o d' t' s' a' hd q1 => ?_) (fun t' q => u1_cg (u1_cg q)) (fun s' q => q) (fun a' q => q)
  · rw [eS []] at hx
    rw [el] at hlen
    exact tk_k1 (tk_word (j := 25) (by omega) hx (fun x hx => by
      have : x = 32 := hx.symm
      rw [this]
      decide) (by omega) (by simp)).1
  · rw [eS []] at hx
    rw [el] at hlen ⊢
    obtain ⟨d1, e1, f1, g1⟩ := rd_weak (n := n) (o := o) hl hd (by rw [q1 0 (by omega), hB]) (by rw [q1 1 (by omega), hR]) hB1 hR1 hB4 hR16 hb hr ho1 ho hf (by rw [q1 _ (by omega)]; exact ht) hx (by omega)
    refine ⟨d1, e1, f1, ?_⟩
    simp only [Nat.add_assoc] at g1 ⊢
    exact g1
theorem PRS_set {L : List Int32} {t s a : Nat → Int32} {m : Int32} {C k v : Nat} (h : PRS L t s a m C) (hk : k < 7) (hv : v < 100) (hm : tb m k) (h1 : ev_sa 0 k ≤ Int32.ofNat v) (h2 : Int32.ofNat v ≤ ev_sa 1 k) :
    PRS (L ++ sbl (37 + k) ++ [32] ++ dg v ++ [59]) t (ev_u1 s k (Int32.ofNat v)) a (m ||| ((1 : Int32) <<< (Int32.ofNat k &&& 31))) C := by
  have e : L ++ sbl (37 + k) ++ [32] ++ dg v ++ [59] = L ++ ((sbl (28 + k) ++ (32 :: dg v)) ++ [59]) := by
    rw [sbl_set k hk]
    simp only [List.append_assoc, List.cons_append, List.nil_append]
  have eS : ∀ T : List Int32, (sbl (28 + k) ++ (32 :: dg v)) ++ (59 :: T) = sbl (28 + k) ++ (32 :: dg v ++ (59 :: T)) := fun T => by
    simp only [List.append_assoc, List.cons_append]
  have el : (sbl (28 + k) ++ (32 :: dg v)).length = ev_sl (28 + k) + 1 + (dg v).length := by
    simp only [List.length_append, List.length_cons, sbl_len]
    omega
  rw [e]
  refine PRS_st (t2 := fun t => t) (s2 := fun s => ev_u1 s k (Int32.ofNat v)) (a2 := fun a => a) h (fun b len hx hlen => ?_) (fun lk b len hl hx hlen n o d' t' s' a' hd q1 => ?_) (fun t' q => q) (fun s' q => u1_cg q) (fun a' q => q)
  · rw [eS []] at hx
    rw [el] at hlen
    exact tk_k1 (tk_word (j := 28 + k) (by omega) hx (fun x hx => by
      have : x = 32 := hx.symm
      rw [this]
      decide) (by omega) (by simp)).1
  · rw [eS []] at hx
    rw [el] at hlen ⊢
    obtain ⟨d1, e1, f1, g1⟩ := rd_setting (n := n) (o := o) hl hd hk hv hm hx (by omega) h1 h2
    refine ⟨d1, e1, f1, ?_⟩
    simp only [Nat.add_assoc] at g1 ⊢
    exact g1
theorem PRS_trading {L : List Int32} {t s a : Nat → Int32} {m : Int32} {C : Nat} (h : PRS L t s a m C) (hm : tb m 7) :
    PRS (L ++ sbl 44) t (ev_u1 s 7 1) a (m ||| ((1 : Int32) <<< (Int32.ofNat 7 &&& 31))) C := by
  rw [sbl_44]
  refine PRS_st (S := sbl 27) (t2 := fun t => t) (s2 := fun s => ev_u1 s 7 1) (a2 := fun a => a) h (fun b len hx hlen => ?_) (fun lk b len hl hx hlen n o d' t' s' a' hd q1 => ?_) (fun t' q => q) (fun s' q => u1_cg q) (fun a' q => q)
  · rw [sbl_len] at hlen
    exact tk_k1 (tk_word (j := 27) (by omega) hx (fun x hx => by
      have : x = 59 := hx.symm
      rw [this]
      decide) (by omega) (by simp)).1
  · rw [sbl_len] at hlen ⊢
    exact rd_trading (n := n) (o := o) hl hd hm hx (by omega)
theorem PRS_ask {L : List Int32} {t s a : Nat → Int32} {m : Int32} {C B R at0 x r : Nat} (h : PRS L t s a m C) (hC : C < 20) (hB : t 0 = Int32.ofNat B) (hR : t 1 = Int32.ofNat R) (hB1 : 1 ≤ B) (hR1 : 1 ≤ R) (hB4 : B ≤ 4) (hR16 : R ≤ 16) (ha : at0 < 100) (hb : x < B) (hr : r < R) :
    PRS (L ++ sbl 45 ++ dg at0 ++ [32] ++ dg x ++ [32] ++ dg r ++ [59]) t s (ev_u1 (ev_u1 (ev_u1 a (3 * C + 2) (Int32.ofNat at0)) (3 * C) (Int32.ofNat x)) (3 * C + 1) (Int32.ofNat r)) m (C + 1) := by
  have e : L ++ sbl 45 ++ dg at0 ++ [32] ++ dg x ++ [32] ++ dg r ++ [59] = L ++ ((sbl 26 ++ (32 :: dg at0 ++ (32 :: dg x ++ (32 :: dg r)))) ++ [59]) := by
    rw [sbl_45]
    simp only [List.append_assoc, List.cons_append, List.nil_append]
  have eS : ∀ T : List Int32, (sbl 26 ++ (32 :: dg at0 ++ (32 :: dg x ++ (32 :: dg r)))) ++ (59 :: T) = sbl 26 ++ (32 :: dg at0 ++ (32 :: dg x ++ (32 :: dg r ++ (59 :: T)))) := fun T => by
    simp only [List.append_assoc, List.cons_append]
  have el : (sbl 26 ++ (32 :: dg at0 ++ (32 :: dg x ++ (32 :: dg r)))).length = ev_sl 26 + 1 + (dg at0).length + 1 + (dg x).length + 1 + (dg r).length := by
    simp only [List.length_append, List.length_cons, sbl_len]
    omega
  rw [e]
  refine PRS_st (t2 := fun t => t) (s2 := fun s => s) (a2 := fun a => ev_u1 (ev_u1 (ev_u1 a (3 * C + 2) (Int32.ofNat at0)) (3 * C) (Int32.ofNat x)) (3 * C + 1) (Int32.ofNat r)) h (fun b len hx hlen => ?_) (fun lk b len hl hx hlen n o d' t' s' a' hd q1 => ?_) (fun t' q => q) (fun s' q => q) (fun a' q k hk => ?_)
  · rw [eS []] at hx
    rw [el] at hlen
    exact tk_k1 (tk_word (j := 26) (by omega) hx (fun x hx => by
      have : x = 32 := hx.symm
      rw [this]
      decide) (by omega) (by simp)).1
  · rw [eS []] at hx
    rw [el] at hlen ⊢
    obtain ⟨d1, e1, f1, g1⟩ := rd_ask (n := n) (o := o) hl hd hC (by rw [q1 0 (by omega), hB]) (by rw [q1 1 (by omega), hR]) hB1 hR1 hB4 hR16 ha hb hr hx (by omega)
    refine ⟨d1, e1, f1, ?_⟩
    simp only [Nat.add_assoc] at g1 ⊢
    exact g1
  · by_cases c2 : k = 3 * C + 1
    · subst c2
      simp only [u1s]
    · by_cases c1 : k = 3 * C
      · subst c1
        simp only [u1n c2, u1s]
      · by_cases c0 : k = 3 * C + 2
        · subst c0
          simp only [u1n c2, u1n c1, u1s]
        · simp only [u1n c2, u1n c1, u1n c0]
          exact q k (by omega)
theorem PRS_head {B R bd iv : Nat} (hB1 : 1 ≤ B) (hB4 : B ≤ 4) (hR1 : 1 ≤ R) (hR16 : R ≤ 16) (hb4 : 4 ≤ bd) (hb : bd < 100) (hi1 : 1 ≤ iv) (hi : iv < 100) :
    PRS ([] ++ sbl 35 ++ dg B ++ [32] ++ dg R ++ [32] ++ dg bd ++ [32] ++ dg iv ++ [59]) (ev_u1 (ev_u1 (ev_u1 (ev_u1 (fun _ => 0) 0 (Int32.ofNat B)) 1 (Int32.ofNat R)) 2 (Int32.ofNat bd)) 3 (Int32.ofNat iv)) us_s (fun _ => 0) 0 0 := by
  have e : [] ++ sbl 35 ++ dg B ++ [32] ++ dg R ++ [32] ++ dg bd ++ [32] ++ dg iv ++ [59] = sbl 24 ++ (32 :: dg B ++ (32 :: dg R ++ (32 :: dg bd ++ (32 :: dg iv ++ (59 :: ([] : List Int32)))))) := by
    rw [sbl_35]
    simp only [List.append_assoc, List.cons_append, List.nil_append]
  have el : (sbl 24 ++ (32 :: dg B ++ (32 :: dg R ++ (32 :: dg bd ++ (32 :: dg iv ++ (59 :: ([] : List Int32))))))).length = ev_sl 24 + 1 + (dg B).length + 1 + (dg R).length + 1 + (dg bd).length + 1 + (dg iv).length + 1 := by
    simp only [List.length_append, List.length_cons, List.length_nil, sbl_len]
    omega
  rw [e]
  intro lk b len hl hx hlen
  rw [el] at hlen ⊢
  exact RS_head hl hB1 hB4 hR1 hR16 hb4 hb hi1 hi hx hlen
