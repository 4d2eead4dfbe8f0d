theorem sd_cl0 : ∀ m ∈ [2, 3, 4, 5, 6, 7, 8, 9, 10, 11, 12, 13, 14, 15, 17, 18], sd_ckm m = true := List.forall_mem_cons.mpr ⟨sd_cm2, List.forall_mem_cons.mpr ⟨sd_cm3, List.forall_mem_cons.mpr ⟨sd_cm4, List.forall_mem_cons.mpr ⟨sd_cm5, List.forall_mem_cons.mpr ⟨sd_cm6, List.forall_mem_cons.mpr ⟨sd_cm7, List.forall_mem_cons.mpr ⟨sd_cm8, List.forall_mem_cons.mpr ⟨sd_cm9, List.forall_mem_cons.mpr ⟨sd_cm10, List.forall_mem_cons.mpr ⟨sd_cm11, List.forall_mem_cons.mpr ⟨sd_cm12, List.forall_mem_cons.mpr ⟨sd_cm13, List.forall_mem_cons.mpr ⟨sd_cm14, List.forall_mem_cons.mpr ⟨sd_cm15, List.forall_mem_cons.mpr ⟨sd_cm17, List.forall_mem_cons.mpr ⟨sd_cm18, fun _ h => nomatch h⟩⟩⟩⟩⟩⟩⟩⟩⟩⟩⟩⟩⟩⟩⟩⟩
theorem sd_cl1 : ∀ m ∈ [19, 20, 21, 22, 23, 24, 25, 26, 27, 28, 29, 30, 31, 32, 33, 34], sd_ckm m = true := List.forall_mem_cons.mpr ⟨sd_cm19, List.forall_mem_cons.mpr ⟨sd_cm20, List.forall_mem_cons.mpr ⟨sd_cm21, List.forall_mem_cons.mpr ⟨sd_cm22, List.forall_mem_cons.mpr ⟨sd_cm23, List.forall_mem_cons.mpr ⟨sd_cm24, List.forall_mem_cons.mpr ⟨sd_cm25, List.forall_mem_cons.mpr ⟨sd_cm26, List.forall_mem_cons.mpr ⟨sd_cm27, List.forall_mem_cons.mpr ⟨sd_cm28, List.forall_mem_cons.mpr ⟨sd_cm29, List.forall_mem_cons.mpr ⟨sd_cm30, List.forall_mem_cons.mpr ⟨sd_cm31, List.forall_mem_cons.mpr ⟨sd_cm32, List.forall_mem_cons.mpr ⟨sd_cm33, List.forall_mem_cons.mpr ⟨sd_cm34, fun _ h => nomatch h⟩⟩⟩⟩⟩⟩⟩⟩⟩⟩⟩⟩⟩⟩⟩⟩
theorem sd_cl2 : ∀ m ∈ [35, 36, 37, 38, 39, 40, 41, 42, 43, 44, 45, 46, 47, 48, 49, 50], sd_ckm m = true := List.forall_mem_cons.mpr ⟨sd_cm35, List.forall_mem_cons.mpr ⟨sd_cm36, List.forall_mem_cons.mpr ⟨sd_cm37, List.forall_mem_cons.mpr ⟨sd_cm38, List.forall_mem_cons.mpr ⟨sd_cm39, List.forall_mem_cons.mpr ⟨sd_cm40, List.forall_mem_cons.mpr ⟨sd_cm41, List.forall_mem_cons.mpr ⟨sd_cm42, List.forall_mem_cons.mpr ⟨sd_cm43, List.forall_mem_cons.mpr ⟨sd_cm44, List.forall_mem_cons.mpr ⟨sd_cm45, List.forall_mem_cons.mpr ⟨sd_cm46, List.forall_mem_cons.mpr ⟨sd_cm47, List.forall_mem_cons.mpr ⟨sd_cm48, List.forall_mem_cons.mpr ⟨sd_cm49, List.forall_mem_cons.mpr ⟨sd_cm50, fun _ h => nomatch h⟩⟩⟩⟩⟩⟩⟩⟩⟩⟩⟩⟩⟩⟩⟩⟩
theorem sd_cl3 : ∀ m ∈ [51, 52, 53, 54, 55, 56, 57, 58, 61, 62, 63, 64, 65, 66, 67, 68], sd_ckm m = true := List.forall_mem_cons.mpr ⟨sd_cm51, List.forall_mem_cons.mpr ⟨sd_cm52, List.forall_mem_cons.mpr ⟨sd_cm53, List.forall_mem_cons.mpr ⟨sd_cm54, List.forall_mem_cons.mpr ⟨sd_cm55, List.forall_mem_cons.mpr ⟨sd_cm56, List.forall_mem_cons.mpr ⟨sd_cm57, List.forall_mem_cons.mpr ⟨sd_cm58, List.forall_mem_cons.mpr ⟨sd_cm61, List.forall_mem_cons.mpr ⟨sd_cm62, List.forall_mem_cons.mpr ⟨sd_cm63, List.forall_mem_cons.mpr ⟨sd_cm64, List.forall_mem_cons.mpr ⟨sd_cm65, List.forall_mem_cons.mpr ⟨sd_cm66, List.forall_mem_cons.mpr ⟨sd_cm67, List.forall_mem_cons.mpr ⟨sd_cm68, fun _ h => nomatch h⟩⟩⟩⟩⟩⟩⟩⟩⟩⟩⟩⟩⟩⟩⟩⟩
theorem sd_cl4 : ∀ m ∈ [69, 70, 71, 72, 73, 74, 75, 76, 77, 78, 79, 80, 81, 82, 83, 84], sd_ckm m = true := List.forall_mem_cons.mpr ⟨sd_cm69, List.forall_mem_cons.mpr ⟨sd_cm70, List.forall_mem_cons.mpr ⟨sd_cm71, List.forall_mem_cons.mpr ⟨sd_cm72, List.forall_mem_cons.mpr ⟨sd_cm73, List.forall_mem_cons.mpr ⟨sd_cm74, List.forall_mem_cons.mpr ⟨sd_cm75, List.forall_mem_cons.mpr ⟨sd_cm76, List.forall_mem_cons.mpr ⟨sd_cm77, List.forall_mem_cons.mpr ⟨sd_cm78, List.forall_mem_cons.mpr ⟨sd_cm79, List.forall_mem_cons.mpr ⟨sd_cm80, List.forall_mem_cons.mpr ⟨sd_cm81, List.forall_mem_cons.mpr ⟨sd_cm82, List.forall_mem_cons.mpr ⟨sd_cm83, List.forall_mem_cons.mpr ⟨sd_cm84, fun _ h => nomatch h⟩⟩⟩⟩⟩⟩⟩⟩⟩⟩⟩⟩⟩⟩⟩⟩
theorem sd_cl5 : ∀ m ∈ [85, 86, 87, 88, 90, 91, 92, 93, 94, 95, 96, 97, 98, 99, 100, 101], sd_ckm m = true := List.forall_mem_cons.mpr ⟨sd_cm85, List.forall_mem_cons.mpr ⟨sd_cm86, List.forall_mem_cons.mpr ⟨sd_cm87, List.forall_mem_cons.mpr ⟨sd_cm88, List.forall_mem_cons.mpr ⟨sd_cm90, List.forall_mem_cons.mpr ⟨sd_cm91, List.forall_mem_cons.mpr ⟨sd_cm92, List.forall_mem_cons.mpr ⟨sd_cm93, List.forall_mem_cons.mpr ⟨sd_cm94, List.forall_mem_cons.mpr ⟨sd_cm95, List.forall_mem_cons.mpr ⟨sd_cm96, List.forall_mem_cons.mpr ⟨sd_cm97, List.forall_mem_cons.mpr ⟨sd_cm98, List.forall_mem_cons.mpr ⟨sd_cm99, List.forall_mem_cons.mpr ⟨sd_cm100, List.forall_mem_cons.mpr ⟨sd_cm101, fun _ h => nomatch h⟩⟩⟩⟩⟩⟩⟩⟩⟩⟩⟩⟩⟩⟩⟩⟩
theorem sd_cl6 : ∀ m ∈ [102, 103, 104, 105, 106, 107, 108, 109, 110, 111, 115, 116, 117, 119, 120, 121], sd_ckm m = true := List.forall_mem_cons.mpr ⟨sd_cm102, List.forall_mem_cons.mpr ⟨sd_cm103, List.forall_mem_cons.mpr ⟨sd_cm104, List.forall_mem_cons.mpr ⟨sd_cm105, List.forall_mem_cons.mpr ⟨sd_cm106, List.forall_mem_cons.mpr ⟨sd_cm107, List.forall_mem_cons.mpr ⟨sd_cm108, List.forall_mem_cons.mpr ⟨sd_cm109, List.forall_mem_cons.mpr ⟨sd_cm110, List.forall_mem_cons.mpr ⟨sd_cm111, List.forall_mem_cons.mpr ⟨sd_cm115, List.forall_mem_cons.mpr ⟨sd_cm116, List.forall_mem_cons.mpr ⟨sd_cm117, List.forall_mem_cons.mpr ⟨sd_cm119, List.forall_mem_cons.mpr ⟨sd_cm120, List.forall_mem_cons.mpr ⟨sd_cm121, fun _ h => nomatch h⟩⟩⟩⟩⟩⟩⟩⟩⟩⟩⟩⟩⟩⟩⟩⟩
theorem sd_cl7 : ∀ m ∈ [122, 123, 124, 125, 126, 224, 225, 226, 227, 228, 229, 230, 231, 232, 233, 234], sd_ckm m = true := List.forall_mem_cons.mpr ⟨sd_cm122, List.forall_mem_cons.mpr ⟨sd_cm123, List.forall_mem_cons.mpr ⟨sd_cm124, List.forall_mem_cons.mpr ⟨sd_cm125, List.forall_mem_cons.mpr ⟨sd_cm126, List.forall_mem_cons.mpr ⟨sd_cm224, List.forall_mem_cons.mpr ⟨sd_cm225, List.forall_mem_cons.mpr ⟨sd_cm226, List.forall_mem_cons.mpr ⟨sd_cm227, List.forall_mem_cons.mpr ⟨sd_cm228, List.forall_mem_cons.mpr ⟨sd_cm229, List.forall_mem_cons.mpr ⟨sd_cm230, List.forall_mem_cons.mpr ⟨sd_cm231, List.forall_mem_cons.mpr ⟨sd_cm232, List.forall_mem_cons.mpr ⟨sd_cm233, List.forall_mem_cons.mpr ⟨sd_cm234, fun _ h => nomatch h⟩⟩⟩⟩⟩⟩⟩⟩⟩⟩⟩⟩⟩⟩⟩⟩
theorem sd_cl8 : ∀ m ∈ [235, 236, 237, 238, 239, 240, 241, 242, 243, 244, 245, 246, 247, 248, 249, 250], sd_ckm m = true := List.forall_mem_cons.mpr ⟨sd_cm235, List.forall_mem_cons.mpr ⟨sd_cm236, List.forall_mem_cons.mpr ⟨sd_cm237, List.forall_mem_cons.mpr ⟨sd_cm238, List.forall_mem_cons.mpr ⟨sd_cm239, List.forall_mem_cons.mpr ⟨sd_cm240, List.forall_mem_cons.mpr ⟨sd_cm241, List.forall_mem_cons.mpr ⟨sd_cm242, List.forall_mem_cons.mpr ⟨sd_cm243, List.forall_mem_cons.mpr ⟨sd_cm244, List.forall_mem_cons.mpr ⟨sd_cm245, List.forall_mem_cons.mpr ⟨sd_cm246, List.forall_mem_cons.mpr ⟨sd_cm247, List.forall_mem_cons.mpr ⟨sd_cm248, List.forall_mem_cons.mpr ⟨sd_cm249, List.forall_mem_cons.mpr ⟨sd_cm250, fun _ h => nomatch h⟩⟩⟩⟩⟩⟩⟩⟩⟩⟩⟩⟩⟩⟩⟩⟩
theorem sd_cl9 : ∀ m ∈ [251, 252, 253, 254, 255, 256, 257, 258, 259, 260, 261, 262, 263, 264, 265, 266], sd_ckm m = true := List.forall_mem_cons.mpr ⟨sd_cm251, List.forall_mem_cons.mpr ⟨sd_cm252, List.forall_mem_cons.mpr ⟨sd_cm253, List.forall_mem_cons.mpr ⟨sd_cm254, List.forall_mem_cons.mpr ⟨sd_cm255, List.forall_mem_cons.mpr ⟨sd_cm256, List.forall_mem_cons.mpr ⟨sd_cm257, List.forall_mem_cons.mpr ⟨sd_cm258, List.forall_mem_cons.mpr ⟨sd_cm259, List.forall_mem_cons.mpr ⟨sd_cm260, List.forall_mem_cons.mpr ⟨sd_cm261, List.forall_mem_cons.mpr ⟨sd_cm262, List.forall_mem_cons.mpr ⟨sd_cm263, List.forall_mem_cons.mpr ⟨sd_cm264, List.forall_mem_cons.mpr ⟨sd_cm265, List.forall_mem_cons.mpr ⟨sd_cm266, fun _ h => nomatch h⟩⟩⟩⟩⟩⟩⟩⟩⟩⟩⟩⟩⟩⟩⟩⟩
theorem sd_cl10 : ∀ m ∈ [267, 268, 269, 270, 271, 272, 273, 274, 275, 276, 277, 278, 279, 280, 281, 282], sd_ckm m = true := List.forall_mem_cons.mpr ⟨sd_cm267, List.forall_mem_cons.mpr ⟨sd_cm268, List.forall_mem_cons.mpr ⟨sd_cm269, List.forall_mem_cons.mpr ⟨sd_cm270, List.forall_mem_cons.mpr ⟨sd_cm271, List.forall_mem_cons.mpr ⟨sd_cm272, List.forall_mem_cons.mpr ⟨sd_cm273, List.forall_mem_cons.mpr ⟨sd_cm274, List.forall_mem_cons.mpr ⟨sd_cm275, List.forall_mem_cons.mpr ⟨sd_cm276, List.forall_mem_cons.mpr ⟨sd_cm277, List.forall_mem_cons.mpr ⟨sd_cm278, List.forall_mem_cons.mpr ⟨sd_cm279, List.forall_mem_cons.mpr ⟨sd_cm280, List.forall_mem_cons.mpr ⟨sd_cm281, List.forall_mem_cons.mpr ⟨sd_cm282, fun _ h => nomatch h⟩⟩⟩⟩⟩⟩⟩⟩⟩⟩⟩⟩⟩⟩⟩⟩
def sd_mc : List Nat := [2, 3, 4, 5, 6, 7, 8, 9, 10, 11, 12, 13, 14, 15, 17, 18] ++ [19, 20, 21, 22, 23, 24, 25, 26, 27, 28, 29, 30, 31, 32, 33, 34] ++ [35, 36, 37, 38, 39, 40, 41, 42, 43, 44, 45, 46, 47, 48, 49, 50] ++ [51, 52, 53, 54, 55, 56, 57, 58, 61, 62, 63, 64, 65, 66, 67, 68] ++ [69, 70, 71, 72, 73, 74, 75, 76, 77, 78, 79, 80, 81, 82, 83, 84] ++ [85, 86, 87, 88, 90, 91, 92, 93, 94, 95, 96, 97, 98, 99, 100, 101] ++ [102, 103, 104, 105, 106, 107, 108, 109, 110, 111, 115, 116, 117, 119, 120, 121] ++ [122, 123, 124, 125, 126, 224, 225, 226, 227, 228, 229, 230, 231, 232, 233, 234] ++ [235, 236, 237, 238, 239, 240, 241, 242, 243, 244, 245, 246, 247, 248, 249, 250] ++ [251, 252, 253, 254, 255, 256, 257, 258, 259, 260, 261, 262, 263, 264, 265, 266] ++ [267, 268, 269, 270, 271, 272, 273, 274, 275, 276, 277, 278, 279, 280, 281, 282]
theorem sd_mc_in : ∀ m, m < 283 → sd_rl m = true → m ∈ sd_mc := by decide +kernel
theorem sd_cc_all : ∀ m ∈ sd_mc, sd_ckm m = true := (List.forall_mem_append.mpr ⟨(List.forall_mem_append.mpr ⟨(List.forall_mem_append.mpr ⟨(List.forall_mem_append.mpr ⟨(List.forall_mem_append.mpr ⟨(List.forall_mem_append.mpr ⟨(List.forall_mem_append.mpr ⟨(List.forall_mem_append.mpr ⟨(List.forall_mem_append.mpr ⟨(List.forall_mem_append.mpr ⟨sd_cl0, sd_cl1⟩), sd_cl2⟩), sd_cl3⟩), sd_cl4⟩), sd_cl5⟩), sd_cl6⟩), sd_cl7⟩), sd_cl8⟩), sd_cl9⟩), sd_cl10⟩)
theorem sd_chk_ok {m pc : Nat} {ins : ev_C} (h1 : sd_rl m = true) (h : m < 283) (hc : ev_code m pc = some ins) : sd_chk m pc ins = true := by
  by_cases hp : sd_sz m ≤ pc
  · rw [sd_zn h h1 hp] at hc
    cases hc
  · have hm : sd_ckm m = true := sd_cc_all m (sd_mc_in m h h1)
    have := List.all_eq_true.mp hm pc (List.mem_range.mpr (by omega))
    rw [hc] at this
    exact this
/-! SOUNDNESS, 14: every method keeps its contract -/
theorem sd_slv {g : sd_G} {n : sd_N} : ∀ {as : List ev_V} {vs : List Value}, ev_pl as = true → sd_s g n as vs → lg_sl vs = vs.map Slot.val
  | [], [], _, _ => rfl
  | [], _ :: _, _, h => h.elim
  | _ :: _, [], _, h => h.elim
  | .inl (.inl x) :: as, v :: vs, hp, h => by
    have ih := sd_slv (show ev_pl as = true from hp) h.2
    have e : v = .int x := h.1
    subst e
    show ([Slot.val (.int x)] ++ lg_sl vs) = _
    rw [ih]
    rfl
  | .inr (.inr q) :: as, v :: vs, hp, h => by
    have ih := sd_slv (show ev_pl as = true from hp) h.2
    have e := h.1.cat1
    have : lg_sl (v :: vs) = (if v.category = 2 then [Slot.val v, .second] else [.val v]) ++ lg_sl vs := rfl
    rw [this, ih, e]
    rfl
  | .inl (.inr _) :: _, _ :: _, hp, _ => by cases hp
  | .inr (.inl _) :: _, _ :: _, hp, _ => by cases hp
theorem sd_nths {g : sd_G} {n : sd_N} : ∀ {as : List ev_V} {vs : List Value} (j : Nat), sd_s g n as vs → ev_nth as j = .inr (.inr (105, 0)) ∨ ∃ v, vs[j]? = some v ∧ sd_v g n (ev_nth as j) v
  | [], _, _, _ => Or.inl rfl
  | _ :: _, [], _, h => h.elim
  | x :: as, v :: vs, 0, h => Or.inr ⟨v, rfl, h.1⟩
  | x :: as, v :: vs, j + 1, h => by
    rcases sd_nths j h.2 with e | ⟨w, h1, h2⟩
    · exact Or.inl e
    · exact Or.inr ⟨w, h1, h2⟩
theorem sd_entry {g : sd_G} {n : sd_N} {nL : Nat} {as : List ev_V} {vs : List Value} (hp : ev_pl as = true) (hs : sd_s g n as vs) (hlen : as.length ≤ nL) : sd_l g n nL as ((lg_sl vs ++ List.replicate (nL - (lg_sl vs).length) Slot.unset).toArray) := by
  have e := sd_slv hp hs
  have hl : (lg_sl vs).length ≤ nL := by rw [e, List.length_map, ← hs.len]; exact hlen
  obtain ⟨h1, h2, -⟩ := lv_entry vs hl
  refine ⟨h1, h2, fun j => ?_⟩
  rcases sd_nths j hs with q | ⟨v, q1, q2⟩
  · exact Or.inl (by rw [q]; rfl)
  · refine Or.inr ⟨v, ?_, q2⟩
    have hj : j < vs.length := (List.getElem?_eq_some_iff.mp q1).1
    rw [List.getElem?_toArray, List.getElem?_append_left (by rw [e, List.length_map]; exact hj), e, List.getElem?_map, q1]
    rfl
def sd_B (l : Launch) (g : sd_G) (n : Nat) : Prop := ∀ (p : Program) (e : Env) (R : Room) (s : State) (m : MethodId) (args : Array Value) (below : List Frame) (meth : Method) (c : Code) (Q : State → Prop) (mi : Nat) (res : ev_O) (μz : ev_M), sd_rl mi = true → mi < 283 → sd_cx p l R s m args meth c g mi → sd_E p l e R s m args below meth c Q g mi res μz →
  sd_K p l e R s m args below meth c Q g mi res μz (fun pc ls st μ cl sl => ev_ev n (mi, pc, ls, st, cl, sl) μ)
theorem sd_step {l : Launch} {g : sd_G} {n : Nat} (hP : sd_P l g (ev_ev n)) (hB : sd_B l g n) : sd_B l g (n + 1) := by
  intro p e R s m args below meth c Q mi res μz h1 h244 C hE pc ls st μ cl sl H locs vl vs hcs hev hl hs hS hR
  have hev : (match ev_code mi pc with
      | none => none
      | some ins => ev_ex (ev_ev n) mi (fun pc' ls' st' μ' c' s' => ev_ev n (mi, pc', ls', st', c', s') μ') ins pc (ev_ct ins.1 ls) st μ cl sl) = some (res, μz) := hev
  split at hev
  · cases hev
  · rename_i ins hins
    have hk := sd_chk_ok h1 h244 hins
    have hK := hB p e R s m args below meth c Q mi res μz h1 h244 C hE
    obtain ⟨q, gp, h, a, b, len, x, tb⟩ := ins
    have hl' := hl.take q
    unfold ev_ex at hev
    unfold sd_chk at hk
    dsimp only at hev hk
    split at hev
    · exact sd_g0 C hK hk hev hl' hs hS hR hcs
    · exact sd_g1 C hK hk hev hl' hs hS hR hcs
    · exact sd_g2 C hK hk hev hl' hs hS hR hcs
    · exact sd_g3 C hK hk hev hl' hs hS hR hcs
    · exact sd_g4 C hK hP hE hk hev hl' hs hS hR hcs
    · exact sd_g5 C hK hk hev hl' hs hS hR hcs
    · exact sd_g6 C hK hk hev hl' hs hS hR hcs
    · exact sd_g7 C hK hP hE hk hev hl' hs hS hR hcs
    · cases hev
theorem sd_meet {l : Launch} {g : sd_G} {n : Nat} (htr : l.stackTraces = false) (hB : sd_B l g n) : sd_P l g (ev_ev n) := by
  intro a as μ res μ1 vs h1 h243 hlen hpl hev hs
  refine ⟨sd_mono n _ _ _ hev, ?_⟩
  have hm := sd_mk_ok a h1 h243
  simp only [sd_mk, Bool.and_eq_true, decide_eq_true_eq] at hm
  obtain ⟨hmi, hmh, hmv, hmp, hmk⟩ := hm
  have body : ∀ (p : Program) (e : Env) (s : State) (m : MethodId) (args : Array Value) (below : List Frame) (meth : Method) (c : Code) (s₁ : State), BodyLoose p l (sd_y a) (headSpec (sd_ws a) (sd_rm a)) (sd_cc a) (ev_ml a) (sd_ret a) e s m args below meth c s₁ → c.maxLocals = ev_ml a → c.exceptionTable.toList = tableOf (sd_hh a) → sd_Pc g μ vs args s →
      W p l e (headSpec (sd_ws a) (sd_rm a)).room s m args below meth c s.heap [] 0 0 (vx_MQ below (sd_Qc g res μ1) (sd_XC g res μ1) args s (ev_mc a) (ev_ms a) (sd_A g)) (entryFrame m args (ev_ml a)) := by
    intro p e s m args below meth c s₁ B hml ht hP
    obtain ⟨hargs, hX, hR, hz⟩ := hP
    have C : sd_cx p l (headSpec (sd_ws a) (sd_rm a)).room s m args meth c g a :=
      ⟨B.exec, B.bytes, hml, findClass_of_methodNamed B.named, fun w hw => atoms_spec (ws := sd_ws a) B.pre w (List.mem_cons_of_mem _ hw), hX, B.notSynchronized, htr, hz, ⟨rfl, rfl, rfl, rfl⟩, fun h => (name_of_methodNamed B.named B.method).1.trans h, Or.inl ht⟩
    have hl := sd_entry (g := g) (n := sd_nn μ) hpl hs hlen
    have k := hB p e _ s m args below meth c _ a res μ1 h1 (by omega) C (Or.inl ⟨h243, B.returns, rfl⟩) 0 as [] μ 0 0 s.heap [] _ [] ⟨Nat.zero_le _, Nat.zero_le _⟩ hev hl trivial va_S.rf hR
    have he : entryFrame m args (ev_ml a) = F0 m 0 ((lg_sl vs ++ List.replicate (ev_ml a - (lg_sl vs).length) Slot.unset).toArray) [] := by rw [hargs]; exact lg_entry_eq m vs (ev_ml a)
    rw [he]
    exact k
  by_cases hn : sd_hh a = []
  · refine vx_ofW (cc := sd_cc a) (maxL := ev_ml a) (ret := sd_ret a) (ws' := sd_gw) hmp (by unfold sd_ws; rw [sd_wd_nil hn]) fun p e s m args below meth c s₁ B hml ht hP => ?_
    refine body p e s m args below meth c s₁ B hml ?_ hP
    rw [hn]
    exact List.eq_nil_iff_forall_not_mem.mpr fun x hx => ht x hx
  · have hw : sd_ws a = Cond.codeWith (sd_y a) (sd_cc a) (ev_ml a) (sd_ret a) (sd_hh a) :: sd_gw := by unfold sd_ws; rw [sd_wd_con hn]
    refine vx_ofWH (cc := sd_cc a) (maxL := ev_ml a) (ret := sd_ret a) (hh := sd_hh a) (ws' := sd_gw) hmp hw fun p e s m args below meth c s₁ B hml hP => ?_
    exact body p e s m args below meth c s₁ B hml (vx_table (x := sd_y a) B (atoms_spec (ws := sd_ws a) B.pre _ (by rw [hw]; exact List.mem_cons_self))) hP
theorem sd_sound {l : Launch} {g : sd_G} (htr : l.stackTraces = false) : ∀ n, sd_P l g (ev_ev n) ∧ sd_B l g n
  | 0 => ⟨fun a as μ res μ1 vs _ _ _ _ h _ => (by cases h), fun p e R s m args below meth c Q mi res μz _ _ _ _ pc ls st μ cl sl H locs vl vs _ h => (by cases h)⟩
  | n + 1 => by
    obtain ⟨hP, hB⟩ := sd_sound htr n
    have hB1 := sd_step hP hB
    exact ⟨sd_meet htr hB1, hB1⟩
