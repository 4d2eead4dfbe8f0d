/-! SOUNDNESS, 9: throws and ends -/
def sd_cv (q : Nat × Nat × Nat × Nat) (pc : Nat) : Bool := Nat.ble q.1 pc && Nat.blt pc q.2.1
/-- an exception E at pc comes to the handler h -/
def sd_kx (own : String) (E h pc : Nat) : List (Nat × Nat × Nat × Nat) → Bool
  | [] => false
  | q :: r => if sd_cv q pc = true then (!(Nat.beq q.2.2.2 0) && (if sd_w8 (.classLink own q.2.2.2 (sd_xn E)) = true then Nat.beq q.2.2.1 h else ((List.range 3).any (fun E' => !(Nat.beq E' E) && sd_w8 (.classLink own q.2.2.2 (sd_xn E'))) && sd_kx own E h pc r))) else sd_kx own E h pc r
def sd_kl (own : String) (pc : Nat) (hh : List (Nat × Nat × Nat × Nat)) : List Nat → Bool
  | e :: h :: r => Nat.blt e 3 && (sd_kx own e h pc hh && sd_kl own pc hh r)
  | [] => true
  | _ => false
def sd_un4 (mi pc : Nat) : Bool := (sd_hh mi).all fun q => !(sd_cv q pc)
def sd_kt (mi pc : Nat) (tb : List Nat) : Bool := match tb.drop 4 with
  | [] => sd_un4 mi pc
  | e :: r => sd_kl (sd_y mi).cls pc (sd_hh mi) (e :: r)
theorem sd_hs : ∀ {l : List Nat} {own : String} {pc : Nat} {hh : List (Nat × Nat × Nat × Nat)} {E : Nat} {y : Nat → ev_T} {z : ev_O × ev_M}, sd_kl own pc hh l = true → ev_hs l E y none = some z → ∃ h, E < 3 ∧ sd_kx own E h pc hh = true ∧ y h = some z
  | [], _, _, _, _, _, _, _, h => by cases h
  | [_], _, _, _, _, _, _, hc, _ => by cases hc
  | e :: h :: r, own, pc, hh, E, y, z, hc, hv => by
    have hc : (Nat.blt e 3 && (sd_kx own e h pc hh && sd_kl own pc hh r)) = true := hc
    simp only [Bool.and_eq_true] at hc
    have hv : (bif Nat.beq e E then y h else ev_hs r E y none) = some z := hv
    cases q : Nat.beq e E with
    | true =>
      rw [q] at hv
      have e1 := Nat.eq_of_beq_eq_true q
      subst e1
      exact ⟨h, Nat.le_of_ble_eq_true hc.1, hc.2.1, hv⟩
    | false =>
      rw [q] at hv
      exact sd_hs hc.2.2 hv
theorem sd_cst : ∀ E, E < 3 → lw_tbl.any (fun x => decide (x = .castable (sd_xn E) (sd_xn E))) = true := by decide +kernel
theorem sd_inw {w : Cond} (h : lw_tbl.any (fun x => decide (x = w)) = true) : w ∈ lw_tbl := by
  obtain ⟨x, hx, h2⟩ := List.any_eq_true.mp h
  have h2 := of_decide_eq_true h2
  rw [← h2]
  exact hx
theorem sd_cov (q : Nat × Nat × Nat × Nat) (pc : Nat) : covers ⟨q.1, q.2.1, q.2.2.1, q.2.2.2⟩ pc = sd_cv q pc := by
  unfold covers sd_cv
  have e1 : Nat.ble q.1 pc = decide (q.1 ≤ pc) := by
    cases h : Nat.ble q.1 pc with
    | true => simp [Nat.le_of_ble_eq_true h]
    | false =>
      have : ¬ q.1 ≤ pc := fun z => by rw [Nat.ble_eq.mpr z] at h; cases h
      simp [this]
  have e2 : Nat.blt pc q.2.1 = decide (pc < q.2.1) := by
    cases h : Nat.blt pc q.2.1 with
    | true =>
      have : pc < q.2.1 := Nat.le_of_ble_eq_true h
      simp [this]
    | false =>
      have : ¬ pc < q.2.1 := fun z => by
        have h3 : Nat.ble (pc + 1) q.2.1 = true := Nat.ble_eq.mpr z
        have h4 : Nat.ble (pc + 1) q.2.1 = false := h
        rw [h3] at h4
        cases h4
      simp [this]
  rw [e1, e2]
/-- an end of the method -/
def sd_E (p : Program) (l : Launch) (e : Env) (R : Room) (s : State) (m : MethodId) (args : Array Value) (below : List Frame) (meth : Method) (c : Code) (Q : State → Prop) (g : sd_G) (mi : Nat) (res : ev_O) (μz : ev_M) : Prop :=
  (mi < 282 ∧ meth.sig.returnType = sd_ret mi ∧ Q = vx_MQ below (sd_Qc g res μz) (sd_XC g res μz) args s (ev_mc mi) (ev_ms mi) (sd_A g)) ∨
  (mi = 282 ∧ (∃ y : Int32, res = .inl (some (.inl (.inl y)))) ∧ ∀ (y : Int32) (pc : Nat) (vl : Array Slot) (H : Heap) (locs : List Loc) (cl sl : Nat), res = .inl (some (.inl (.inl y))) → decode (sd_cc mi) pc = .ok (.ireturn, 1) → va_S (sd_A g) s.heap H locs → sd_R g μz H → cl ≤ ev_mc mi → sl ≤ ev_ms mi → W p l e R s m args below meth c H locs cl sl Q (F0 m pc vl [.int y]))
/-- the heap behind a throw -/
theorem sd_R.thrown {g : sd_G} {n : Nat} {lk : Nat → Nat → Nat → Bool} {d : Nat → Nat → Nat → Int32} {o : ev_W} {H H1 : Heap} (h : sd_R g (n, lk, d, o) H) (hn : 384 ≤ n) (hz : H.size ≤ H1.size) (oq : ∀ q : Nat, q < H.size → H1[q]? = H[q]?) : sd_R g (n + 1000, lk, d, o) H1 := by
  obtain ⟨h1, h2, h3, h4, h5, h6, h7, h8, h9⟩ := h
  have back : ∀ r i, r < 62 → sd_al (n + 1000, o.1, o.2.1) r i → sd_al (n, o.1, o.2.1) r i := fun r i hr ha => ⟨ha.1, by
    obtain ⟨a, b⟩ := sd_cn_ev ha.1
    have := sd_sq383 r a i b
    show ev_sq r i + 1 < n
    omega⟩
  have hle : sd_le (n, o.1, o.2.1) (n + 1000, o.1, o.2.1) := ⟨by show n ≤ n + 1000; omega, Nat.le_refl _, fun _ _ => rfl⟩
  refine ⟨fun r i hr ha => ?_, fun q => ?_, fun r i k hr ha a b c => ?_, h4, h5, ?_, fun q => ?_, fun r i a => ?_, fun r i k j a b c z => ?_⟩
  · have hcc := h1 r i hr (back r i hr ha)
    exact hcc.kept (oq _ hcc.lt) (fun _ => rfl) (fun _ => rfl)
  · have q : n + 1000 < 1000 := q
    omega
  · obtain ⟨x, y⟩ := h3 r i k hr (back r i hr ha) a b c
    exact ⟨x, y.mono hle⟩
  · have : g.1 ≤ H.size := h6
    show g.1 ≤ H1.size
    omega
  · have q : n + 1000 < 384 := q
    omega
  · have hcc := h8 r i a
    exact hcc.kept (oq _ hcc.lt) (fun _ => rfl) (fun _ => rfl) (fun _ => rfl)
  · exact (h9 r i k j a b c z).mono hle
def sd_xs : List String := ["java/lang/RuntimeException", "java/lang/Exception"]
def sd_k10 (mi pc a b : Nat) (tb : List Nat) : Bool :=
  Nat.blt mi 282 && (Nat.blt a 3 && (ev_so b && (decide ((sd_sr.getD b ("", 0, "", 0)).1 = (sd_y mi).cls) && (Nat.beq (sd_sr.getD b ("", 0, "", 0)).2.1 (tb.getD 2 0) &&
  (sd_at (tb.getD 1 0 + 70) (.classLink (sd_y mi).cls (tb.getD 0 0) (sd_xn a)) && (sd_w8 (.initialized (sd_xn a)) &&
  ((vx_atS (sd_y mi).cls (tb.getD 3 0) (sd_xn a) sd_xs).all (fun w => vx_ot w && (sd_w8 w || (lw_tbl.any (fun x => decide (x = w)) && (sd_nb w && w.onTables)))) &&
  (Nat.ble 6 (ev_fr mi) && (Nat.ble 90 (ev_lr mi) && (sd_is (sd_cc mi) pc (.new (tb.getD 0 0)) 3 && (sd_is (sd_cc mi) (pc + 3) .dup 1 && (match tb.getD 5 0 with
    | 0 => sd_is (sd_cc mi) (pc + 4) (.ldc (tb.getD 2 0)) 2 && (sd_is (sd_cc mi) (pc + 6) (.invokespecial (tb.getD 3 0)) 3 && (sd_is (sd_cc mi) (pc + 9) .athrow 1 && sd_un4 mi (pc + 9)))
    | _ => sd_is (sd_cc mi) (pc + 4) (.ldc_w (tb.getD 2 0)) 3 && (sd_is (sd_cc mi) (pc + 7) (.invokespecial (tb.getD 3 0)) 3 && (sd_is (sd_cc mi) (pc + 10) .athrow 1 && sd_un4 mi (pc + 10)))))))))))))))
theorem sd_fit : (∀ a, a < 3 → Bundle.fit (sd_xn a) = true) ∧ (∀ n ∈ sd_xs, Bundle.fit n = true) := by decide +kernel
section SDA
variable {p : Program} {l : Launch} {e : Env} {R : Room} {s : State} {m : MethodId} {args : Array Value} {below : List Frame} {meth : Method} {c : Code} {Q : State → Prop} {g : sd_G} {mi : Nat} {res : ev_O} {μz : ev_M} {K : ev_K}
theorem sd_unc (C : sd_cx p l R s m args meth c g mi) (h243 : mi < 282) {pc : Nat} (h : sd_un4 mi pc = true) : ∀ x ∈ c.exceptionTable.toList, covers x pc = false := by
  obtain ⟨-, -, -, -, -, -, -, -, -, -, -, htb⟩ := C
  have htb : c.exceptionTable.toList = tableOf (sd_hh mi) := htb.elim id (fun q => by omega)
  intro x hx
  rw [htb] at hx
  obtain ⟨q, hq, e⟩ := List.mem_map.mp hx
  rw [← e]
  have := List.all_eq_true.mp h q hq
  simp only [Bool.not_eq_true'] at this
  rw [sd_cov]
  exact this
/-- a throw here -/
theorem sd_throw (C : sd_cx p l R s m args meth c g mi) (hE : sd_E p l e R s m args below meth c Q g mi res μz) {pc a b len : Nat} {tb : List Nat} (hck : sd_k10 mi pc a b tb = true) {n : Nat} {lk : Nat → Nat → Nat → Bool} {d : Nat → Nat → Nat → Int32} {o : ev_W} {cl sl : Nat} {H : Heap} {locs : List Loc} {vl : Array Slot} {vs : List Value}
    (hres : res = .inr a) (hmu : μz = (n + 1000, lk, d, o)) (hn : 384 ≤ n) (hc1 : cl + 1 ≤ ev_mc mi) (hc2 : sl + 6 ≤ ev_ms mi) (hwd : (vs.map fun v => v.category).sum ≤ 8) (hl : vl.size = ev_ml mi) (hS : va_S (sd_A g) s.heap H locs) (hR : sd_R g (n, lk, d, o) H) : W p l e R s m args below meth c H locs cl sl Q (F0 m pc vl vs) := by
  have C0 := C
  obtain ⟨hx, hb, hml, hown, hts, hX, hlk, htr, hz, ⟨hrf, hrl, hrc, hrs⟩, -⟩ := C
  simp only [sd_k10, Bool.and_eq_true, decide_eq_true_eq] at hck
  obtain ⟨hmi, ha, hb35, hs1, hs2, hk, hini, hat, h6, h90, d0, d3, hrest⟩ := hck
  have hmi : mi < 282 := Nat.le_of_ble_eq_true hmi
  have ha : a < 3 := Nat.le_of_ble_eq_true ha
  have h6 : 6 ≤ ev_fr mi := Nat.le_of_ble_eq_true h6
  have h90 : 90 ≤ ev_lr mi := Nat.le_of_ble_eq_true h90
  have hs2 := Nat.eq_of_beq_eq_true hs2
  obtain ⟨-, hret, hQ⟩ : mi < 282 ∧ meth.sig.returnType = sd_ret mi ∧ Q = vx_MQ below (sd_Qc g res μz) (sd_XC g res μz) args s (ev_mc mi) (ev_ms mi) (sd_A g) := by
    rcases hE with h | ⟨h, -⟩
    · exact h
    · omega
  have hstr := hX.2.2.1 b hb35
  rw [hs1, hs2] at hstr
  have hat1 : ∀ w ∈ vx_atS (sd_y mi).cls (tb.getD 3 0) (sd_xn a) sd_xs, w.before args s = true := fun w hw => by
    have h := List.all_eq_true.mp hat w hw
    simp only [Bool.and_eq_true, Bool.or_eq_true] at h
    rcases h.2 with h | ⟨h1, h2, h3⟩
    · exact hts _ (sd_any h)
    · exact va_Nw.use h3 (hX.2.1 _ (sd_inw h1) h2)
  have hgood : ∀ w ∈ Cond.classLink (sd_y mi).cls (tb.getD 0 0) (sd_xn a) :: Cond.initialized (sd_xn a) :: vx_atS (sd_y mi).cls (tb.getD 3 0) (sd_xn a) sd_xs, vx_ot w = true := fun w hw => by
    rcases List.mem_cons.mp hw with e | hw
    · rw [e]; rfl
    · rcases List.mem_cons.mp hw with e | hw
      · rw [e]; rfl
      · have h := List.all_eq_true.mp hat w hw
        simp only [Bool.and_eq_true] at h
        exact h.1
  have hxx : ∀ t : State, s.vm.Alike t.vm → H.size ≤ t.heap.size → (∀ q : Nat, q < H.size → t.heap[q]? = H[q]?) → sd_XC g res μz (sd_xn a) s t := fun t _ h1 h2 =>
    ⟨⟨a, hres, rfl, ha⟩, by rw [hmu]; exact hR.thrown hn h1 h2, ⟨Nat.le_trans hS.1 h1, fun q g1 g2 => by rw [h2 q (Nat.lt_of_lt_of_le g1 hS.1)]; exact hS.2.1 q g1 g2⟩⟩
  have hfrm : sd_xs.length + 3 < R.frames := by rw [hrf]; show 5 < _; omega
  have hloc : (vs.map fun v => v.category).sum + (13 * (sd_xs.length + 1) + 43) ≤ R.locals := by rw [hrl]; show _ + 82 ≤ _; omega
  rw [hQ]
  split at hrest
  · simp only [Bool.and_eq_true] at hrest
    obtain ⟨d4, d6, d9, hun⟩ := hrest
    exact vx_throwS hx hb htr hown (sd_fit.1 a ha) sd_fit.2 (hts _ (sd_at_in hk)) (hts _ (sd_any hini)) hstr hat1 hgood hX.2.2.2.2.2.2.2.1 hX.2.2.2.2.2.2.2.2.1 hS (hl.trans hml.symm) (sd_is_eq d0) (sd_is_eq d3) (sd_is_eq d4) (sd_is_eq d6) (sd_is_eq d9) (sd_unc C0 hmi hun) hfrm hloc (by rw [hrc]; exact hc1) (by rw [hrs]; exact hc2) hlk hxx hS.2.2 hc1 hc2
  · simp only [Bool.and_eq_true] at hrest
    obtain ⟨d4, d7, d10, hun⟩ := hrest
    exact vx_throwSW hx hb htr hown (sd_fit.1 a ha) sd_fit.2 (hts _ (sd_at_in hk)) (hts _ (sd_any hini)) hstr hat1 hgood hX.2.2.2.2.2.2.2.1 hX.2.2.2.2.2.2.2.2.1 hS (hl.trans hml.symm) (sd_is_eq d0) (sd_is_eq d3) (sd_is_eq d4) (sd_is_eq d7) (sd_is_eq d10) (sd_unc C0 hmi hun) hfrm hloc (by rw [hrc]; exact hc1) (by rw [hrs]; exact hc2) hlk hxx hS.2.2 hc1 hc2
end SDA
/-! SOUNDNESS, 11: makings, calls, throws, ends: all instructions -/
def sd_kcx (mi pc a b len : Nat) (tb : List Nat) : Bool := sd_kcall mi pc a b len tb && (if (Nat.beq (tb.getD 2 9) 0 && Nat.beq (tb.getD 3 9) 0) = true then sd_kt mi pc tb else true)
def sd_k4 (mi pc h a b len : Nat) (tb : List Nat) : Bool := match h with
  | 0 => sd_is (sd_cc mi) pc (.new (tb.getD 0 0)) 3 && (Nat.beq len 3 && (decide (ev_kn (tb.getD 3 0) = (0, a)) && (Nat.blt (tb.getD 3 0) 44 && (vwCl[a]?).any (fun q => sd_at (tb.getD 1 0 + 70) (.classLink (sd_y mi).cls (tb.getD 0 0) q.1)))))
  | 1 => sd_is (sd_cc mi) pc (.newarray (sd_at4 a)) 2 && (Nat.beq len 2 && (Nat.blt 0 a && (Nat.blt a 4 && (Nat.blt (tb.getD 1 0) 44 && Nat.ble ((ev_kn (tb.getD 1 0)).2 * 8) 536870912))))
  | 2 => sd_is (sd_cc mi) pc (.anewarray (tb.getD 0 0)) 3 && (Nat.beq len 3 && (sd_at (tb.getD 1 0 + 70) (.classLink (sd_y mi).cls (tb.getD 0 0) RX8) && (Nat.blt (tb.getD 2 0) 44 && Nat.ble ((ev_kn (tb.getD 2 0)).2 * 4) 536870912)))
  | 3 => sd_is (sd_cc mi) pc (.invokespecial (tb.getD 0 0)) 3 && (Nat.beq len 3 && (sd_at (tb.getD 1 0 + 70) (.methodLink (sd_y mi).cls (tb.getD 0 0) Lib.objectInit) && (Nat.ble 1 (ev_fr mi) && Nat.ble 20 (ev_lr mi))))
  | 4 => sd_kcx mi pc a b len tb
  | 13 => sd_kcx mi pc a b len tb
  | 14 => sd_kcx mi pc a b len tb
  | 15 => sd_kcx mi pc a b len tb
  | 5 => sd_is (sd_cc mi) pc (.invokestatic (tb.getD 0 0)) 3 && (Nat.beq len 3 && (sd_at (tb.getD 1 0 + 70) (.methodLink (sd_y mi).cls (tb.getD 0 0) arraycopyName) && (Nat.ble 1 (ev_fr mi) && Nat.ble (8 + (nativeFrameWords "java/lang/System" "arraycopy" 5 + 11)) (ev_lr mi))))
  | 6 => sd_is (sd_cc mi) pc .ireturn 1 && (Nat.beq mi 282 || (match ev_rt mi with
    | 1 => decide (sd_ret mi = some .int)
    | 2 => decide (sd_ret mi = some .boolean)
    | 3 => decide (sd_ret mi = some .char)
    | 4 => decide (sd_ret mi = some .byte)
    | _ => false))
  | 7 => sd_is (sd_cc mi) pc .return_ 1 && (Nat.blt mi 282 && decide (sd_ret mi = none))
  | 8 => sd_is (sd_cc mi) pc .areturn 1 && (Nat.blt mi 282 && (match sd_ret mi with
    | some (.object _) => true
    | some (.array _) => true
    | _ => false))
  | 9 => sd_is (sd_cc mi) pc .dreturn 1 && (Nat.blt mi 282 && decide (sd_ret mi = some .double))
  | 10 => sd_k10 mi pc a b tb
  | 16 => sd_is (sd_cc mi) pc (.invokestatic (tb.getD 0 0)) 3 && (Nat.beq len 3 && (sd_at (tb.getD 1 0 + 70) (.methodLink (sd_y mi).cls (tb.getD 0 0) Lib.Math.max.name) && (Nat.ble 1 (ev_fr mi) && Nat.ble 21 (ev_lr mi))))
  | 17 => sd_is (sd_cc mi) pc (.invokestatic (tb.getD 0 0)) 3 && (Nat.beq len 3 && (sd_at (tb.getD 1 0 + 70) (.methodLink (sd_y mi).cls (tb.getD 0 0) Lib.Math.min.name) && (Nat.ble 1 (ev_fr mi) && Nat.ble 21 (ev_lr mi))))
  | _ => true
theorem sd_ma_ok : sd_w8 (.static Lib.Math.max.name) = true ∧ sd_w8 (.static Lib.Math.min.name) = true ∧ sd_w8 (.initialized "java/lang/Math") = true ∧ sd_w8 (.code Lib.Math.max.name Lib.Math.max.code 2 (some .int)) = true ∧ sd_w8 (.code Lib.Math.min.name Lib.Math.min.code 2 (some .int)) = true := by decide +kernel
theorem sd_cl_eq {m a b kd c s : Nat} {st : List ev_V} {k : ev_F → List ev_V → Nat → Nat → ev_T} {z : ev_O × ev_M} (h : ev_cl m a b kd st c s k = some z) : (b ≤ st.length ∧ ev_wd (st.drop b) ≤ 8 ∧ ev_fr a < ev_fr m ∧ 19 + ev_ml a + ev_lr a ≤ ev_lr m ∧ ev_rc kd a ((st.take b).reverse) = true ∧ ev_pl ((st.take b).reverse) = true ∧ c + ev_mc a ≤ ev_mc m ∧ s + ev_ms a ≤ ev_ms m) ∧ k (a, 0, (st.take b).reverse, [], 0, 0) (st.drop b) (c + ev_mc a) (s + ev_ms a) = some z := by
  obtain ⟨hc, h⟩ := sd_bif h
  simp only [Bool.and_eq_true] at hc
  obtain ⟨h1, h2, h3, h4, h5, h6, h7, h8⟩ := hc
  exact ⟨⟨Nat.le_of_ble_eq_true h1, Nat.le_of_ble_eq_true h2, Nat.le_of_ble_eq_true h3, Nat.le_of_ble_eq_true h4, h5, h6, Nat.le_of_ble_eq_true h7, Nat.le_of_ble_eq_true h8⟩, h⟩
section SDB
variable {p : Program} {l : Launch} {e : Env} {R : Room} {s : State} {m : MethodId} {args : Array Value} {below : List Frame} {meth : Method} {c : Code} {Q : State → Prop} {g : sd_G} {mi : Nat} {res : ev_O} {μz : ev_M} {K : ev_K}
/-- behind a call that returned -/
theorem sd_back {pc mc1 ms1 cl sl : Nat} {z : Option ev_V} {μ1 : ev_M} {H : Heap} {locs : List Loc} {vl : Array Slot} {vs vr : List Value} (hrun : va_Run p l e R s m args below meth c H locs cl sl mc1 ms1 (F0 m pc vl vs) vr (sd_Qc g (.inl z) μ1 #[]) (sd_A g)) (hS : va_S (sd_A g) s.heap H locs)
    (kk : ∀ (H1 : Heap) (locs1 : List Loc) (v : Option Value), (match z with | none => v = none | some x => ∃ w, v = some w ∧ sd_v g (sd_nn μ1) x w) → va_S (sd_A g) s.heap H1 locs1 → sd_R g μ1 H1 → W p l e R s m args below meth c H1 locs1 (cl + mc1) (sl + ms1) Q (F0 m (pc + 3) vl (v.toList ++ vr))) : W p l e R s m args below meth c H locs cl sl Q (F0 m pc vl vs) := by
  intro T hT X
  obtain ⟨v, st₀, t, T', L, h0, X', hL, e1, e2, ⟨hq, hR1, hF⟩, st⟩ := hrun T hT X
  obtain ⟨k1, k2, k3⟩ := vx_keep h0 e1 hS (fun q _ h => h) (fun q h => h) hL hF
  obtain ⟨t2, a1, b1⟩ := kk T'.heap (locs ++ L) v (by
    cases z with
    | none => cases hq; rfl
    | some x => obtain ⟨w, hw, hv⟩ := hq; cases hw; exact ⟨_, rfl, hv⟩) k3 (by rw [e1]; exact hR1) T' rfl X'
  exact ⟨t2, st t2 a1, b1⟩
/-- behind a call that threw -/
theorem sd_backX (C : sd_cx p l R s m args meth c g mi) (hK : sd_K p l e R s m args below meth c Q g mi res μz K) (hX : sd_E p l e R s m args below meth c Q g mi res μz) {pc mc1 ms1 cl sl : Nat} {tb : List Nat} {E : Nat} {μ μ1 : ev_M} {H : Heap} {locs : List Loc} {ls : List ev_V} {vl : Array Slot} {vs vr : List Value} (hkt : sd_kt mi pc tb = true)
    (hrun : vx_Run p l e R s m args below meth c H locs cl sl mc1 ms1 (F0 m pc vl vs) vr (sd_Qc g (.inr E) μ1 #[]) (sd_XC g (.inr E) μ1) (sd_A g)) (hmono : sd_le (sd_nn μ) (sd_nn μ1)) (hl : sd_l g (sd_nn μ) (ev_ml mi) ls vl) (hS : va_S (sd_A g) s.heap H locs) (hcs : cl + mc1 ≤ ev_mc mi ∧ sl + ms1 ≤ ev_ms mi)
    (hev : ev_hx (tb.drop 4) E μ1 (fun hp => K hp ls [ev_R 106 0] μ1 (cl + mc1) (sl + ms1)) = some (res, μz)) : W p l e R s m args below meth c H locs cl sl Q (F0 m pc vl vs) := by
  intro T hT X
  rcases hrun T hT X with ⟨v, st₀, t, T', L, h0, X', hL, e1, e2, ⟨hq, -⟩, st⟩ | ⟨q, st₀, t, T', L, E', ce, h0, X', hL, e1, e2, ⟨⟨e9, he, hE', h3⟩, hR1, hF⟩, hce, hcv, hcl, st⟩
  · exact hq.elim
  · cases he
    subst hE'
    obtain ⟨k1, k2, k3⟩ := vx_keep h0 e1 hS (fun q _ h => h) (fun q h => h) hL hF
    have hRT : sd_R g μ1 T'.heap := by rw [e1]; exact hR1
    have hceT : T'.heap[q]? = some ce := by rw [e1]; exact hce
    have hw : vx_W p l e R s m args below meth c T'.heap (locs ++ L) (cl + mc1) (sl + ms1) Q (F0 m pc vl vr) q := by
      unfold ev_hx at hev
      unfold sd_kt at hkt
      split at hev
      · rename_i hnil
        rw [hnil] at hkt
        cases hev
        rcases hX with ⟨hm, hret, hQ⟩ | ⟨h243, ⟨y, hy⟩, -⟩
        · rw [hQ]
          obtain ⟨-, -, -, -, -, -, hlk, -⟩ := id C
          exact vx_out (sd_unc C hm hkt) hlk hceT hcv hcl (fun t ht ha => ⟨⟨E, rfl, rfl, h3⟩, by rw [ht]; exact hRT, k3.F ht⟩) k3.2.2 hcs.1 hcs.2
        · cases hy
      · rename_i e' r' hcons
        rw [hcons] at hkt
        obtain ⟨h, hE3, hkx, hy⟩ := sd_hs hkt hev
        obtain ⟨-, -, -, -, -, -, -, -, -, -, -, htb⟩ := id C
        have htb : c.exceptionTable.toList = tableOf (sd_hh mi) := htb.elim id (fun q => by
          subst q
          have : sd_hh 282 = [] := by decide +kernel
          rw [this] at hkx
          cases hkx)
        cases hkx
    obtain ⟨t2, a1, b1⟩ := hw T' rfl X'
    exact ⟨t2, st.trans a1, b1⟩
/-- a call, with what is behind it -/
theorem sd_calls (C : sd_cx p l R s m args meth c g mi) (hK : sd_K p l e R s m args below meth c Q g mi res μz K) {call : ev_F → ev_M → ev_T} (hP : sd_P l g call) (hX : sd_E p l e R s m args below meth c Q g mi res μz) {pc a b len : Nat} {tb : List Nat} (hck : sd_kcx mi pc a b len tb = true) {ls st : List ev_V} {μ μ1 : ev_M} {o1 : ev_O} {cl sl : Nat} {H : Heap} {locs : List Loc} {vl : Array Slot} {vs : List Value}
    (hr : b ≤ st.length ∧ ev_wd (st.drop b) ≤ 8 ∧ ev_fr a < ev_fr mi ∧ 19 + ev_ml a + ev_lr a ≤ ev_lr mi ∧ ev_rc (tb.getD 2 0) a ((st.take b).reverse) = true ∧ ev_pl ((st.take b).reverse) = true ∧ cl + ev_mc a ≤ ev_mc mi ∧ sl + ev_ms a ≤ ev_ms mi)
    (hc : call (a, 0, (st.take b).reverse, [], 0, 0) μ = some (o1, μ1)) (hl : sd_l g (sd_nn μ) (ev_ml mi) ls vl) (hs : sd_s g (sd_nn μ) st vs) (hS : va_S (sd_A g) s.heap H locs) (hR : sd_R g μ H)
    (kr : ∀ z, o1 = .inl z → match z with
      | none => K (pc + len) ls (st.drop b) μ1 (cl + ev_mc a) (sl + ev_ms a) = some (res, μz)
      | some x => K (pc + len) ls (x :: st.drop b) μ1 (cl + ev_mc a) (sl + ev_ms a) = some (res, μz))
    (kx : ∀ E, o1 = .inr E → (bif Nat.beq (tb.getD 2 9) 0 && Nat.beq (tb.getD 3 9) 0 then ev_hx (tb.drop 4) E μ1 (fun hp => K hp ls [ev_R 106 0] μ1 (cl + ev_mc a) (sl + ev_ms a)) else none) = some (res, μz)) : W p l e R s m args below meth c H locs cl sl Q (F0 m pc vl vs) := by
  unfold sd_kcx at hck
  rw [Bool.and_eq_true] at hck
  obtain ⟨hck, hkx⟩ := hck
  obtain ⟨h1, h2, h3, h4, h5, h6, h7, h8⟩ := hr
  obtain ⟨hmono, r1, r2⟩ := sd_call C hP hck h1 h2 h3 h4 h5 h6 h7 h8 hc hl.1 hs hS hR
  have hlen : len = 3 := by
    simp only [sd_kcall, Bool.and_eq_true] at hck
    exact Nat.eq_of_beq_eq_true hck.1
  subst hlen
  cases o1 with
  | inl z =>
    refine sd_back (r1 ⟨z, rfl⟩) hS fun H1 locs1 v hv hS1 hR1 => ?_
    have k := kr z rfl
    cases z with
    | none =>
      cases hv
      exact hK _ _ _ _ _ _ _ _ _ _ ⟨h7, h8⟩ k (hl.mono hmono) ((hs.drop b).mono hmono) hS1 hR1
    | some x =>
      obtain ⟨w, rfl, hw⟩ := hv
      exact hK _ _ _ _ _ _ _ _ _ _ ⟨h7, h8⟩ k (hl.mono hmono) ⟨hw, (hs.drop b).mono hmono⟩ hS1 hR1
  | inr E =>
    obtain ⟨hz, k⟩ := sd_bif (kx E rfl)
    rw [if_pos hz] at hkx
    simp only [Bool.and_eq_true] at hz
    exact sd_backX C hK hX hkx (r2 ⟨Nat.eq_of_beq_eq_true hz.1, Nat.eq_of_beq_eq_true hz.2⟩) hmono hl hS ⟨h7, h8⟩ k
theorem sd_ret1 (C : sd_cx p l R s m args meth c g mi) (hE : sd_E p l e R s m args below meth c Q g mi res μz) {pc : Nat} {y : Int32} {μ : ev_M} {cl sl : Nat} {H : Heap} {locs : List Loc} {vl : Array Slot} (hd : decode (sd_cc mi) pc = .ok (.ireturn, 1))
    (hk : (Nat.beq mi 282 || (match ev_rt mi with
    | 1 => decide (sd_ret mi = some .int)
    | 2 => decide (sd_ret mi = some .boolean)
    | 3 => decide (sd_ret mi = some .char)
    | 4 => decide (sd_ret mi = some .byte)
    | _ => false)) = true) (hok : ev_ok (ev_rt mi) y = true) (hres : res = .inl (some (.inl (.inl y)))) (hmu : μz = μ) (hS : va_S (sd_A g) s.heap H locs) (hR : sd_R g μ H) (hcs : cl ≤ ev_mc mi ∧ sl ≤ ev_ms mi) : W p l e R s m args below meth c H locs cl sl Q (F0 m pc vl [.int y]) := by
  rcases hE with ⟨-, hret, hQ⟩ | ⟨h243, -, hk2⟩
  · obtain ⟨hx, hb, hml, hown, hts, hX, hlk, -⟩ := C
    rw [hQ]
    simp only [Bool.or_eq_true] at hk
    have hty : ∃ ty, meth.sig.returnType = some ty ∧ narrow ty (.int y) = .int y := by
      rcases hk with h | h
      · have e : mi = 282 := Nat.eq_of_beq_eq_true h
        subst e
        have e1 : sd_ret 282 = some .boolean := by decide +kernel
        have e2 : ev_rt 282 = 2 := by decide +kernel
        rw [e2] at hok
        have hok : y &&& 1 = y := of_decide_eq_true hok
        exact ⟨.boolean, hret.trans e1, by show Value.int (y &&& 1) = _; rw [hok]⟩
      · split at h
        · exact ⟨.int, hret.trans (of_decide_eq_true h), rfl⟩
        · rename_i q
          rw [q] at hok
          have hok : y &&& 1 = y := of_decide_eq_true hok
          exact ⟨.boolean, hret.trans (of_decide_eq_true h), by show Value.int (y &&& 1) = _; rw [hok]⟩
        · rename_i q
          rw [q] at hok
          have hok : (y.toUInt32 % 65536).toInt32 = y := of_decide_eq_true hok
          refine ⟨.char, hret.trans (of_decide_eq_true h), ?_⟩
          show Value.int (y.toUInt32.toUInt16.toUInt32.toInt32) = _
          have e9 : y.toUInt32.toUInt16.toUInt32 = y.toUInt32 % 65536 := by
            apply UInt32.toNat_inj.mp
            simp
          rw [e9, hok]
        · rename_i q
          rw [q] at hok
          have hok : y.toInt8.toInt32 = y := of_decide_eq_true hok
          exact ⟨.byte, hret.trans (of_decide_eq_true h), by show Value.int (y.toInt8.toInt32) = _; rw [hok]⟩
        · cases h
    obtain ⟨ty, ht, hn⟩ := hty
    exact W.widen hcs.1 hcs.2 (vx_ret (W.zret hx hb ht hn (fun t ht _ => ⟨by rw [hres]; exact ⟨_, rfl, rfl⟩, by rw [ht, hmu]; exact hR, hS.F ht⟩) hS.2.2 hd (hlocks := hlk)))
  · exact hk2 y pc vl H locs cl sl hres hd hS (by rw [hmu]; exact hR) hcs.1 hcs.2
end SDB
