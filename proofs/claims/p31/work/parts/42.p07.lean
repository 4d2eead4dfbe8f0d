/-! THE LAW'S METHODS, 7: state, all the rest -/
variable {σ : Int32}
theorem ct_w {w w' : Nat → Int32} {st : Int32} (h : ∀ j, j < 615 → w' j = w j) : ∀ C, C ≤ 40 → ms_ct w' st C = ms_ct w st C
  | 0, _ => rfl
  | C + 1, hC => by
    unfold ms_ct
    rw [ct_w h C (by omega), h _ (by omega)]
theorem hots_w {w w' : Nat → Int32} (h : ∀ j, j < 615 → w' j = w j) : ∀ B, B ≤ 4 → ms_hots w' B = ms_hots w B
  | 0, _ => rfl
  | B + 1, hB => by
    have e := hot_AG (V := w') (V' := w) (b := B) (h 3 (by omega)) (h _ (by omega))
    have ih := hots_w h B (by omega)
    have h1 : ms_hots w' (B + 1) = if ms_hot w' B then ms_hots w' B + 1 else ms_hots w' B := rfl
    have h2 : ms_hots w (B + 1) = if ms_hot w B then ms_hots w B + 1 else ms_hots w B := rfl
    rw [h1, h2, ih]
    by_cases c : ms_hot w B
    · rw [if_pos c, if_pos (e.mpr c)]
    · rw [if_neg c, if_neg (fun z => c (e.mp z))]
theorem lost_w {w w' : Nat → Int32} (h : ∀ j, j < 615 → w' j = w j) : ∀ k, k ≤ 64 → ms_lost w' k = ms_lost w k
  | 0, _ => rfl
  | k + 1, hk => by
    unfold ms_lost
    rw [lost_w h k (by omega), h _ (by omega)]
/-- the sizes, of what is told and now -/
def szw (t w : Nat → Int32) (C B : Nat) : Nat → Int32
  | 0 => t 0
  | 1 => t 1
  | 2 => t 2
  | 3 => t 3
  | 4 => w 8
  | 5 => w 9
  | 6 => Int32.ofNat (ms_ct w 1 C)
  | 7 => ms_lost w 64
  | 8 => Int32.ofNat (ms_hots w B)
  | _ => w 7
theorem szv_w {d : Nat → Nat → Nat → Int32} {B R C T τ k : Nat} (hG : GB d B R C T τ) : ol_szv d C B k = szw (d 45 0) (d 46 0) C B k := by
  obtain ⟨-, -, ⟨c0, c1, c2, c3, -⟩, -, -, ⟨K, hs⟩, -⟩ := hG
  unfold ol_szv szw
  split
  · exact c0
  · exact c1
  · exact c2
  · exact c3
  · exact cs_tm hs
  · exact cs_ct hs
  · rfl
  · rfl
  · rfl
  · rename_i h0 h1 h2 h3 h4 h5 h6 h7 h8
    split
    · exact absurd rfl h0
    · exact absurd rfl h1
    · exact absurd rfl h2
    · exact absurd rfl h3
    · exact absurd rfl h4
    · exact absurd rfl h5
    · exact absurd rfl h6
    · exact absurd rfl h7
    · exact absurd rfl h8
    · rfl
theorem szw_w {t w w' : Nat → Int32} {C B k : Nat} (h : ∀ j, j < 615 → w' j = w j) (h40 : C ≤ 40) (h4 : B ≤ 4) : szw t w' C B k = szw t w C B k := by
  unfold szw
  split
  · rfl
  · rfl
  · rfl
  · rfl
  · exact h _ (by omega)
  · exact h _ (by omega)
  · rw [ct_w h C h40]
  · exact lost_w h 64 (by omega)
  · rw [hots_w h B h4]
  · exact h _ (by omega)
theorem fp_self {a b : Int32} (hb : b ≠ 0) : Op.cmpValue (FP.dcmp (FP.ddiv (FP.i2d a) (FP.i2d b)) (FP.ddiv (FP.i2d a) (FP.i2d b))) .l = 0 := by
  have h1 : FP.Core.dIsNaN (FP.Core.i2d a) = false := by
    have hm := FP.Core.i2d_mag a
    cases h : FP.Core.dIsNaN (FP.Core.i2d a) with
    | false => rfl
    | true =>
      have := (FP.Core.isNaN_bits _).mp h
      omega
  have h2 := FP.Core.ddiv_out h1 (FP.Core.i2d_fin b) (fun z => FP.Core.i2d_ne_zero hb ((FP.Core.zero_bits2 _).mp z))
  have h3 := FP.Core.dcmp_self ((FP.Core.notNaN_iff _).mp h2)
  show Op.cmpValue (FP.Core.dcmp (FP.Core.ddiv (FP.Core.i2d a) (FP.Core.i2d b)) (FP.Core.ddiv (FP.Core.i2d a) (FP.Core.i2d b))) .l = 0
  rw [h3]
  rfl
theorem fp_self0 : Op.cmpValue (FP.dcmp FP.dconst0 FP.dconst0) .l = 0 := by
  have h2 : FP.Core.dIsNaN FP.dconst0 = false := by decide
  have h3 := FP.Core.dcmp_self ((FP.Core.notNaN_iff _).mp h2)
  show Op.cmpValue (FP.Core.dcmp FP.dconst0 FP.dconst0) .l = 0
  rw [h3]
  rfl
section ST5
variable {lk : Nat → Nat → Nat → Bool} {d : Nat → Nat → Nat → Int32} {wn : Nat} {tt : Nat → Nat} {e : Nat → Nat → Nat → Int32} {q : Nat → Nat → Nat → Nat} {i B R C τ : Nat} {P : ev_O × ev_M → Prop}
/-- the five numbers of a request -/
theorem st_req (hl : LK lk) (hR : LR σ d e i B R C τ) {p i8 : Nat} (hp : p < C) (he : ∀ k, k < 5 → e 210 i8 k = d 46 0 (375 + 6 * p + k)) {y2 y3 y4 y5 y6 : Int32} {c s : Nat} (hc : c + 10 ≤ 1200) (hs : s + 60 ≤ 7200)
    (kk : ∀ d' c' s', GF d d' → c' ≤ c + 10 → s' ≤ s + 60 → ER (279, 510, [ev_R 27 0, ev_R 200 i, ev_I y2, ev_I y3, ev_I y4, ev_I y5, ev_I y6, ev_I (Int32.ofNat (p + 1))], [], c', s') (384, lk, d', wn, tt, e, q) P) :
    ER (279, 577, [ev_R 27 0, ev_R 200 i, ev_I y2, ev_I y3, ev_I y4, ev_I y5, ev_I y6, ev_I (Int32.ofNat p), ev_R 210 i8, ev_I 0], [], c, s) (384, lk, d, wn, tt, e, q) P := by
  obtain ⟨b4, -, -, r6, h39, -⟩ := hR.bds
  have loop : ∀ j k, k + j = 5 → ∀ d' c' s', GF d d' → c' + 2 * j ≤ c + 10 → s' + 12 * j ≤ s + 60 → ER (279, 577, [ev_R 27 0, ev_R 200 i, ev_I y2, ev_I y3, ev_I y4, ev_I y5, ev_I y6, ev_I (Int32.ofNat p), ev_R 210 i8, ev_I (Int32.ofNat k)], [], c', s') (384, lk, d', wn, tt, e, q) P := by
    intro j
    induction j with
    | zero =>
      intro k hk d' c' s' g1 g2 g3
      have e9 : k = 5 := by omega
      subst e9
      refine ER_bk ?_
      rw [bk_279_577, if_neg (by decide)]
      refine ER_bk ?_
      rw [bk_279_607, ni_1]
      exact kk d' c' s' g1 (by omega) (by omega)
    | succ j ih =>
      intro k hk d' c' s' g1 g2 g3
      obtain ⟨-, T, hG, -⟩ := LR_GF hR g1
      obtain ⟨d2, gf, eq⟩ := gl_call (wn, tt, e, q) (ol_request hl hG hp (k := k) (by omega))
      have ev : e 210 i8 k = d' 46 0 (375 + 6 * p + k) := by
        rw [he k (by omega)]
        exact (g1.2.2.2.2.1.2.1 _ (by omega)).symm
      refine ER_bk ?_
      rw [bk_279_577, if_pos (show Int32.ofNat k < 5 from (ni_lt (b := 5) (by omega) (by omega)).mpr (by omega)), ble2 (by omega) (by omega), cond_true, eq]
      simp only [ni_in (n := k) (N := 5) (by omega) (by omega), ni_c (n := k) (by omega), cond_true, ev, if_pos rfl, ni_1]
      exact ih (k + 1) (by omega) d2 _ _ (GF_t g1 gf) (by omega) (by omega)
  exact loop 5 0 (by omega) d c s (GF_r d) (by omega) (by omega)
/-- all requests -/
theorem st_reqs (hl : LK lk) (hq : LQ q i) (hR : LR σ d e i B R C τ) (hi : i + 45 ≤ wn) {y2 y3 y4 y5 y6 y7 : Int32} {c s : Nat} (hc : c + 11 * C ≤ 1200) (hs : s + 65 * C ≤ 7200)
    (kk : ∀ wn' tt' d' e' q' c' s', KF wn d e q wn' d' e' q' → c' ≤ c + 11 * C → s' ≤ s + 65 * C → ER (279, 613, [ev_R 27 0, ev_R 200 i, ev_I y2, ev_I y3, ev_I y4, ev_I y5, ev_I y6, ev_I (Int32.ofNat C)], [], c', s') (384, lk, d', wn', tt', e', q') P) :
    ER (279, 507, [ev_R 27 0, ev_R 200 i, ev_I y2, ev_I y3, ev_I y4, ev_I y5, ev_I y6, ev_I y7], [], c, s) (384, lk, d, wn, tt, e, q) P := by
  obtain ⟨b4, -, -, r6, h39, -⟩ := hR.bds
  have loop : ∀ j p, p + j = C → ∀ wn' tt' d' e' q' c' s', KF wn d e q wn' d' e' q' → c' + 11 * j ≤ c + 11 * C → s' + 65 * j ≤ s + 65 * C → ER (279, 510, [ev_R 27 0, ev_R 200 i, ev_I y2, ev_I y3, ev_I y4, ev_I y5, ev_I y6, ev_I (Int32.ofNat p)], [], c', s') (384, lk, d', wn', tt', e', q') P := by
    intro j
    induction j with
    | zero =>
      intro p hp wn' tt' d' e' q' c' s' g1 g2 g3
      have ep : p = C := by omega
      subst ep
      obtain ⟨-, T, hG, ⟨u, K, hV, hI, hC, -⟩, -⟩ := g1.LR hi hR
      have e5 : e' 200 i 5 = Int32.ofNat p := (hV _ _ _ _ _ la_reqs).trans hC
      refine ER_bk ?_
      rw [bk_279_510, e5, if_neg (fun z => Int32.lt_irrefl z)]
      exact kk wn' tt' d' e' q' c' s' g1 (by omega) (by omega)
    | succ j ih =>
      intro p hp wn' tt' d' e' q' c' s' g1 g2 g3
      have hR' := g1.LR hi hR
      have hq' := g1.LQ hi hq
      have hi' : i + 45 ≤ wn' := Nat.le_trans hi g1.1
      obtain ⟨-, T, hG, ⟨u, K, hV, hI, hC, -⟩, -⟩ := id hR'
      have e5 : e' 200 i 5 = Int32.ofNat C := (hV _ _ _ _ _ la_reqs).trans hC
      have f0 : e' 204 (i + 3) p = d' 46 0 (375 + 6 * p + 0) := hV _ _ _ _ _ (la_rq (x := 0) (q := p) (by omega) (by omega))
      have f1 : e' 204 (i + 4) p = d' 46 0 (375 + 6 * p + 1) := hV _ _ _ _ _ (la_rq (x := 1) (q := p) (by omega) (by omega))
      have f2 : e' 204 (i + 5) p = d' 46 0 (375 + 6 * p + 2) := hV _ _ _ _ _ (la_rq (x := 2) (q := p) (by omega) (by omega))
      have f3 : e' 204 (i + 6) p = d' 46 0 (375 + 6 * p + 3) := hV _ _ _ _ _ (la_rq (x := 3) (q := p) (by omega) (by omega))
      have f4 : e' 204 (i + 7) p = d' 46 0 (375 + 6 * p + 4) := hV _ _ _ _ _ (la_rq (x := 4) (q := p) (by omega) (by omega))
      obtain ⟨-, -, k11, k12, k13, k14, k15, -⟩ := hq'.1
      refine ER_bk ?_
      rw [bk_279_510, e5, if_pos ((ni_lt (by omega) (by omega)).mpr (by omega)), show (Nat.beq 384 384 && (Nat.ble (c' + 1) 1200 && Nat.ble (s' + 5) 7200)) = true by rw [ble2 (by omega) (by omega)]; rfl, cond_true]
      simp only [k11, k12, k13, k14, k15, ev_lq_s, ni_in (n := p) (N := 40) (by omega) (by omega), ni_c (n := p) (by omega), cond_true, f0, f1, f2, f3, f4]
      have ha : ∀ k, k < 5 → (ev_u3 (ev_u3 (ev_u3 (ev_u3 (ev_u3 (ev_w3 e' 210 wn' (fun _ => 0)) 210 wn' 0 (d' 46 0 (375 + 6 * p + 0))) 210 wn' 1 (d' 46 0 (375 + 6 * p + 1))) 210 wn' 2 (d' 46 0 (375 + 6 * p + 2))) 210 wn' 3 (d' 46 0 (375 + 6 * p + 3))) 210 wn' 4 (d' 46 0 (375 + 6 * p + 4))) 210 wn' k = d' 46 0 (375 + 6 * p + k) := fun k hk => by
        match k, hk with
        | 0, _ => simp (disch := omega) only [u3_ne, u3_eq]
        | 1, _ => simp (disch := omega) only [u3_ne, u3_eq]
        | 2, _ => simp (disch := omega) only [u3_ne, u3_eq]
        | 3, _ => simp (disch := omega) only [u3_ne, u3_eq]
        | 4, _ => simp (disch := omega) only [u3_ne, u3_eq]
      have hf : ∀ r x k, x < wn' → (ev_u3 (ev_u3 (ev_u3 (ev_u3 (ev_u3 (ev_w3 e' 210 wn' (fun _ => 0)) 210 wn' 0 (d' 46 0 (375 + 6 * p + 0))) 210 wn' 1 (d' 46 0 (375 + 6 * p + 1))) 210 wn' 2 (d' 46 0 (375 + 6 * p + 2))) 210 wn' 3 (d' 46 0 (375 + 6 * p + 3))) 210 wn' 4 (d' 46 0 (375 + 6 * p + 4))) r x k = e' r x k := fun r x k hx => by simp (disch := omega) only [u3_ne, w3_ne]
      generalize (ev_u3 (ev_u3 (ev_u3 (ev_u3 (ev_u3 (ev_w3 e' 210 wn' (fun _ => 0)) 210 wn' 0 (d' 46 0 (375 + 6 * p + 0))) 210 wn' 1 (d' 46 0 (375 + 6 * p + 1))) 210 wn' 2 (d' 46 0 (375 + 6 * p + 2))) 210 wn' 3 (d' 46 0 (375 + 6 * p + 3))) 210 wn' 4 (d' 46 0 (375 + 6 * p + 4))) = e2 at ha hf ⊢
      have k2 : KF wn' d' e' q' (wn' + 1) d' e2 (ev_z3 q' 210 wn') := ⟨by omega, GF_r _, hf, fun r x p hx => z3_ne (by omega)⟩
      exact st_req hl (k2.LR hi' hR') (by omega) ha (by omega) (by omega) fun d3 c3 s3 x1 x2 x3 => ih (p + 1) (by omega) _ _ d3 _ _ c3 s3 (g1.tr (k2.tr (KF.look x1))) (by omega) (by omega)
  refine ER_bk ?_
  rw [bk_279_507]
  exact loop C 0 (by omega) wn tt d e q c s KF.rf (by omega) (by omega)
end ST5
