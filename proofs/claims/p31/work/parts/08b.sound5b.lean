/-! SOUNDNESS, 7b: the law's things -/
theorem sd_u3_of {d : Nat → Nat → Nat → Int32} {r0 i0 k0 r i : Nat} {v : Int32} (k : Nat) (h : ¬ (r = r0 ∧ i = i0)) : ev_u3 d r0 i0 k0 v r i k = d r i k := sd_u3_off k h
theorem sd_n3_off {q : Nat → Nat → Nat → Nat} {r0 i0 k0 r i v : Nat} (k : Nat) (h : ¬ (r = r0 ∧ i = i0)) : ev_n3 q r0 i0 k0 v r i k = q r i k := by
  unfold ev_n3
  by_cases h1 : r = r0
  · rw [if_pos h1]
    unfold ev_n2
    rw [if_neg (fun z => h ⟨h1, z⟩), h1]
  · rw [if_neg h1]
theorem sd_n3_on {q : Nat → Nat → Nat → Nat} {r i k0 v : Nat} (k : Nat) : ev_n3 q r i k0 v r i k = if k = k0 then v else q r i k := by
  unfold ev_n3 ev_n2 ev_n1
  rw [if_pos rfl, if_pos rfl]
theorem sd_z3_off {q : Nat → Nat → Nat → Nat} {r0 i0 r i : Nat} (k : Nat) (h : ¬ (r = r0 ∧ i = i0)) : ev_z3 q r0 i0 r i k = q r i k := by
  unfold ev_z3
  by_cases h1 : r = r0
  · rw [if_pos h1]
    unfold ev_z2
    rw [if_neg (fun z => h ⟨h1, z⟩), h1]
  · rw [if_neg h1]
theorem sd_z3_on {q : Nat → Nat → Nat → Nat} {r i : Nat} (k : Nat) : ev_z3 q r i r i k = 0 := by
  unfold ev_z3 ev_z2
  rw [if_pos rfl, if_pos rfl]
/-- one of the law's things is written -/
theorem sd_R.lput {g : sd_G} {n w : Nat} {lk : Nat → Nat → Nat → Bool} {d e e1 : Nat → Nat → Nat → Int32} {t : Nat → Nat} {q q1 : Nat → Nat → Nat → Nat} {H H1 : Heap} {r0 i0 : Nat} (h : sd_R g (n, lk, d, w, t, e, q) H) (ha : sd_la (n, w, t) r0 i0) (hz : H1.size = H.size) (oq : ∀ p : Nat, p ≠ sd_ad g r0 i0 → H1[p]? = H[p]?)
    (he : ∀ r i k, 199 ≤ r → ¬ (r = r0 ∧ i = i0) → e1 r i k = e r i k) (hq : ∀ r i k, 199 < r → ¬ (r = r0 ∧ i = i0) → q1 r i k = q r i k) (hc : sd_lc g (w, t, e1, q1) r0 i0 H1)
    (hk : ∀ k j, sd_ir r0 k = true → k < sd_lz r0 → q1 r0 i0 k = j + 1 → sd_gd (n, w, t) (sd_lr r0 k) j) : sd_R g (n, lk, d, w, t, e1, q1) H1 := by
  obtain ⟨h1, h2, h3, h4, h5, h6, h7, h8, h9⟩ := h
  refine ⟨fun r i hr hi => ?_, fun z => by rw [hz]; exact h2 z, fun r i k hr hi a b c => h3 r i k hr hi a b c, h4, h5, by rw [hz]; exact h6, h7, fun r i a => ?_, fun r i k j a b c z => ?_⟩
  · have hcc := h1 r i hr hi
    exact hcc.kept (oq _ (sd_nel hi.1 ha.1)) (fun _ => rfl) (fun _ => rfl)
  · by_cases z : r = r0 ∧ i = i0
    · rw [z.1, z.2]; exact hc
    · have hne : sd_ad g r i ≠ sd_ad g r0 i0 := by
        rw [sd_adl a.1, sd_adl ha.1]
        intro y
        have e0 : i = i0 := by omega
        have a4 : t i = r := a.2.2.2
        have b4 : t i0 = r0 := ha.2.2.2
        exact z ⟨by rw [← a4, ← b4, e0], e0⟩
      exact (h8 r i a).kept (oq _ hne) (fun k => hq r i k a.1 z) (fun k => he r i k (by have := a.1; omega) z) (fun _ => he 199 i 0 (by omega) (fun y => by have := ha.1; omega))
  · by_cases y : r = r0 ∧ i = i0
    · have z : q1 r i k = j + 1 := z
      rw [y.1, y.2] at z
      rw [y.1] at b c
      rw [y.1]
      exact hk k j b c z
    · have z : q1 r i k = j + 1 := z
      rw [hq r i k a.1 y] at z
      exact h9 r i k j a b c z
/-- one of the law's things is made -/
theorem sd_R.lnew {g : sd_G} {n w : Nat} {lk : Nat → Nat → Nat → Bool} {d e e1 : Nat → Nat → Nat → Int32} {t : Nat → Nat} {q : Nat → Nat → Nat → Nat} {H H1 : Heap} {r0 : Nat} (h : sd_R g (n, lk, d, w, t, e, q) H) (hn : n = 384) (hr0 : 199 < r0) (hr1 : r0 ≤ 215) (hz : H1.size = H.size + 1) (oq : ∀ p : Nat, p < H.size → H1[p]? = H[p]?)
    (he : ∀ r i k, 199 ≤ r → i ≠ w → e1 r i k = e r i k) (hc : sd_lc g (w + 1, ev_n1 t w r0, e1, ev_z3 q r0 w) r0 w H1) : sd_R g (n, lk, d, w + 1, ev_n1 t w r0, e1, ev_z3 q r0 w) H1 := by
  obtain ⟨h1, h2, h3, h4, h5, h6, h7, h8, h9⟩ := h
  have hs : H.size + 1 = g.1 + (n + w) := h2 (by show n < 1000; omega)
  have hle : sd_le (n, w, t) (n, w + 1, ev_n1 t w r0) := ⟨Nat.le_refl _, Nat.le_succ w, fun j hj => by
    have hj : j < w := hj
    show (if j = w then r0 else t j) = t j
    rw [if_neg (by omega)]⟩
  have old : ∀ r i, sd_la (n, w + 1, ev_n1 t w r0) r i → (r = r0 ∧ i = w) ∨ (sd_la (n, w, t) r i ∧ i ≠ w) := by
    intro r i a
    have a3 : i < w + 1 := a.2.2.1
    have a4 : (if i = w then r0 else t i) = r := a.2.2.2
    by_cases z : i = w
    · rw [if_pos z] at a4; exact Or.inl ⟨a4.symm, z⟩
    · rw [if_neg z] at a4
      exact Or.inr ⟨⟨a.1, a.2.1, by show i < w; omega, a4⟩, z⟩
  refine ⟨fun r i hr hi => ?_, fun _ => ?_, fun r i k hr hi a b c => ?_, h4, h5, ?_, fun z => ?_, fun r i a => ?_, fun r i k j a b c z => ?_⟩
  · have hcc := h1 r i hr ⟨hi.1, hi.2⟩
    exact hcc.kept (oq _ hcc.lt) (fun _ => rfl) (fun _ => rfl)
  · show H1.size + 1 = g.1 + (n + (w + 1))
    omega
  · obtain ⟨x, y⟩ := h3 r i k hr ⟨hi.1, hi.2⟩ a b c
    exact ⟨x, y.mono hle⟩
  · show g.1 ≤ H1.size
    have : g.1 ≤ H.size := h6
    omega
  · have z : n < 384 := z
    omega
  · rcases old r i a with z | ⟨b, z⟩
    · rw [z.1, z.2]; exact hc
    · have hcc := h8 r i b
      exact hcc.kept (oq _ hcc.lt) (fun k => sd_z3_off k (fun y => z y.2)) (fun k => he r i k (by have := b.1; omega) z) (fun _ => he 199 i 0 (by omega) z)
  · have z : ev_z3 q r0 w r i k = j + 1 := z
    rcases old r i a with y | ⟨y, x⟩
    · rw [y.1, y.2, sd_z3_on] at z; cases z
    · rw [sd_z3_off k (fun v => x v.2)] at z
      exact (h9 r i k j y b c z).mono hle
theorem sd_lsize {g : sd_G} {n w : Nat} {lk : Nat → Nat → Nat → Bool} {d e : Nat → Nat → Nat → Int32} {t : Nat → Nat} {q : Nat → Nat → Nat → Nat} {H : Heap} {r : Nat} (h : sd_R g (n, lk, d, w, t, e, q) H) (hn : n = 384) (hr : 199 < r) : H.size = sd_ad g r w := by
  have hs : H.size + 1 = g.1 + (n + w) := h.2.1 (by show n < 1000; omega)
  rw [sd_adl hr]
  omega
theorem sd_lnw {n w r : Nat} {t : Nat → Nat} (h : 199 < r) (h2 : r ≤ 215) : sd_la (n, w + 1, ev_n1 t w r) r w := ⟨h, h2, Nat.lt_succ_self w, by show (if w = w then r else t w) = r; rw [if_pos rfl]⟩
theorem sd_le2 {n w r : Nat} {t : Nat → Nat} : sd_le (n, w, t) (n, w + 1, ev_n1 t w r) := ⟨Nat.le_refl _, Nat.le_succ w, fun j hj => by
    have hj : j < w := hj
    show (if j = w then r else t j) = t j
    rw [if_neg (by omega)]⟩
theorem sd_mw_eq {r pc len c s c' s' m : Nat} {e' : Nat → Nat → Nat → Int32} {ls st : List ev_V} {n w : Nat} {lk : Nat → Nat → Nat → Bool} {d e : Nat → Nat → Nat → Int32} {t : Nat → Nat} {q : Nat → Nat → Nat → Nat} {go : ev_K} {z : ev_O × ev_M} (h : ev_mw r e' pc len c s c' s' m ls st (n, lk, d, w, t, e, q) go = some z) :
    (n = 384 ∧ c + c' ≤ ev_mc m ∧ s + s' ≤ ev_ms m) ∧ go (pc + len) ls (.inr (.inr (r, w)) :: st) (n, lk, d, w + 1, ev_n1 t w r, e', ev_z3 q r w) (c + c') (s + s') = some z := by
  obtain ⟨hc, h⟩ := sd_bif h
  simp only [Bool.and_eq_true] at hc
  exact ⟨⟨Nat.eq_of_beq_eq_true hc.1, Nat.le_of_ble_eq_true hc.2.1, Nat.le_of_ble_eq_true hc.2.2⟩, h⟩
def sd_fd (t : Nat) : String := match t with
  | 2 => "Z"
  | 4 => "B"
  | _ => "I"
/-- what is told of a field of the law's -/
def sd_lq (r : Nat) : Bool := (vwCl[(ev_ln r).2]?).all fun q => Nat.beq q.2.2 (ev_lz (ev_ln r).2) && (List.range q.2.2).all fun k => match ev_lf r k with
  | true => (parseFieldDescriptor (q.2.1 k).2.2.1).any (fun t => t.isReference)
  | false => decide ((q.2.1 k).2.2.1 = sd_fd (ev_ly (ev_ln r).2 k))
theorem sd_lq_ok : ∀ r, r < 216 → 199 < r → (ev_ln r).1 = 0 → sd_lq r = true := by decide +kernel
theorem sd_lfl {r a : Nat} {q : vw_C} (h1 : 199 < r) (h2 : r ≤ 215) (hkn : ev_ln r = (0, a)) (hq : vwCl[a]? = some q) : q.2.2 = ev_lz a ∧ ∀ k, k < q.2.2 →
    ((ev_lf r k = true ∧ ∃ t, parseFieldDescriptor (q.2.1 k).2.2.1 = some t ∧ t.isReference = true) ∨ (ev_lf r k = false ∧ (q.2.1 k).2.2.1 = sd_fd (ev_ly a k))) := by
  have h := sd_lq_ok r (by omega) h1 (by rw [hkn])
  unfold sd_lq at h
  rw [hkn] at h
  rw [hq] at h
  have h : (Nat.beq q.2.2 (ev_lz a) && (List.range q.2.2).all fun k => match ev_lf r k with
    | true => (parseFieldDescriptor (q.2.1 k).2.2.1).any (fun t => t.isReference)
    | false => decide ((q.2.1 k).2.2.1 = sd_fd (ev_ly a k))) = true := h
  simp only [Bool.and_eq_true, List.all_eq_true, List.mem_range] at h
  refine ⟨Nat.eq_of_beq_eq_true h.1, fun k hk => ?_⟩
  have b := h.2 k hk
  split at b
  · rename_i hr
    cases hp : parseFieldDescriptor (q.2.1 k).2.2.1 with
    | none => rw [hp] at b; exact absurd b (by simp)
    | some t => rw [hp] at b; exact Or.inl ⟨hr, t, rfl, by simpa using b⟩
  · rename_i hr
    exact Or.inr ⟨hr, of_decide_eq_true b⟩
theorem sd_l0 {g : sd_G} {o : ev_W} {r i a : Nat} {H : Heap} (h : sd_lc g o r i H) (hk : ev_ln r = (0, a)) : ∃ q : vw_C, vwCl[a]? = some q ∧ t_OB (sd_ad g r i) (g.2.1.1 a) q.2.2 (g.2.1.2 a) H (fun k => if ev_lf r k = true then sd_lu g o r i k else .int (o.2.2.1 r i k)) := by
  unfold sd_lc at h
  rw [hk] at h
  exact h
/-! SOUNDNESS, 7c: the law's instructions -/
def sd_cloneY (ad : String) : MethodName := ⟨ad, "clone", "()Ljava/lang/Object;"⟩
def sd_k7a (mi pc h a b len : Nat) (x : Int32) (tb : List Nat) : Bool := match h with
  | 0 => sd_is (sd_cc mi) pc (.getfield (tb.getD 0 0)) 3 && (Nat.beq len 3 && (Nat.blt b (ev_lz a) && (vwCl[a]?).all (fun q => sd_wn (sd_y mi).cls (tb.getD 0 0) (tb.getD 1 0) (tb.getD 2 0) (q.2.1 b).1 (q.2.1 b).2.1 (q.2.1 b).2.2.1)))
  | 1 => sd_is (sd_cc mi) pc (.putfield (tb.getD 0 0)) 3 && (Nat.beq len 3 && (Nat.blt b (ev_lz a) && ((vwCl[a]?).all (fun q => sd_wn (sd_y mi).cls (tb.getD 0 0) (tb.getD 1 0) (tb.getD 2 0) (q.2.1 b).1 (q.2.1 b).2.1 (q.2.1 b).2.2.1) &&
      (vwCl[a]?).all (fun q => !(q.2.1 b).2.2.2 || (Nat.beq (tb.getD 2 0) 0 && (decide ((sd_y mi).name = "<init>") && decide ((q.2.1 b).1 = (sd_y mi).cls)))))))
  | 2 => (match a with
    | 0 => sd_is (sd_cc mi) pc .iaload 1
    | _ => sd_is (sd_cc mi) pc .baload 1) && Nat.beq len 1
  | 3 => sd_is (sd_cc mi) pc .aaload 1 && Nat.beq len 1
  | 5 => (match a with
    | 0 => sd_is (sd_cc mi) pc .iastore 1
    | _ => sd_is (sd_cc mi) pc .bastore 1) && Nat.beq len 1
  | 7 => sd_is (sd_cc mi) pc .aastore 1 && Nat.beq len 1
  | 8 => sd_is (sd_cc mi) pc .arraylength 1 && Nat.beq len 1
  | 9 => sd_is (sd_cc mi) pc (.getstatic (tb.getD 0 0)) 3 && (Nat.beq len 3 && (Nat.beq a 108 && (Nat.blt b 2 && sd_wn (sd_y mi).cls (tb.getD 0 0) (tb.getD 1 0) (tb.getD 2 0) "java/lang/Integer" (sd_sn (5 + b)) "[B")))
  | 10 => sd_is (sd_cc mi) pc .aconst_null 1 && Nat.beq len 1
  | 11 => sd_is (sd_cc mi) pc (.new (tb.getD 0 0)) 3 && (Nat.beq len 3 && (decide (ev_ln b = (0, a)) && (Nat.blt 199 b && (Nat.ble b 215 && (vwCl[a]?).any (fun q => sd_at (tb.getD 1 0 + 70) (.classLink (sd_y mi).cls (tb.getD 0 0) q.1))))))
  | 12 => sd_is (sd_cc mi) pc (.newarray (sd_at4 a)) 2 && (Nat.beq len 2 && (Nat.blt 0 a && (Nat.blt a 4 && (Nat.blt 199 b && (Nat.ble b 215 && Nat.ble ((ev_ln b).2 * 8) 536870912)))))
  | 14 => sd_is (sd_cc mi) pc (.anewarray (tb.getD 0 0)) 3 && (Nat.beq len 3 && ((Nat.beq b 207 && sd_at (tb.getD 1 0 + 70) (.classLink (sd_y mi).cls (tb.getD 0 0) RX11)) || (Nat.beq b 212 && sd_at (tb.getD 1 0 + 70) (.classLink (sd_y mi).cls (tb.getD 0 0) RJ0))))
  | 15 => sd_is (sd_cc mi) pc (.invokevirtual (tb.getD 0 0)) 3 && (Nat.beq len 3 && (sd_at (tb.getD 1 0 + 70) (.methodLink (sd_y mi).cls (tb.getD 0 0) (sd_cloneY "[B")) && (Nat.ble 1 (ev_fr mi) && Nat.ble 22 (ev_lr mi))))
  | 16 => sd_is (sd_cc mi) pc (.checkcast (tb.getD 0 0)) 3 && (Nat.beq len 3 && sd_at (tb.getD 1 0 + 70) (.classLink (sd_y mi).cls (tb.getD 0 0) "[B"))
  | 17 => sd_is (sd_cc mi) pc (.invokestatic (tb.getD 0 0)) 3 && (Nat.beq len 3 && (sd_at (tb.getD 1 0 + 70) (.methodLink (sd_y mi).cls (tb.getD 0 0) arraycopyName) && (Nat.ble 1 (ev_fr mi) && Nat.ble (8 + (nativeFrameWords "java/lang/System" "arraycopy" 5 + 11)) (ev_lr mi))))
  | 21 => sd_is (sd_cc mi) pc (.invokespecial (tb.getD 0 0)) 3 && (Nat.beq len 3 && (sd_at (tb.getD 1 0 + 70) (.methodLink (sd_y mi).cls (tb.getD 0 0) Lib.objectInit) && (Nat.ble 1 (ev_fr mi) && Nat.ble 20 (ev_lr mi))))
  | 22 => Nat.beq len 3 && sd_jp mi pc b (.if_acmp .eq)
  | 23 => Nat.beq len 3 && sd_jp mi pc b (.if_acmp .ne)
  | 24 => Nat.beq len 3 && sd_jp mi pc b .ifnull
  | 25 => Nat.beq len 3 && sd_jp mi pc b .ifnonnull
  | 26 => sd_is (sd_cc mi) pc .dup_x1 1 && Nat.beq len 1
  | _ => true
theorem sd_fit8 (b : Int8) : fits .byte (.int b.toInt32) = true := by
  have h1 := Int8.le_toInt b
  have h2 := Int8.toInt_le b
  have h3 : Int8.maxValue.toInt = 127 := by decide
  have h4 : Int8.minValue.toInt = -128 := by decide
  have h5 : b.toInt32.toInt = b.toInt := Int8.toInt_toInt32 b
  show (decide (-128 ≤ b.toInt32) && decide (b.toInt32 ≤ 127)) = true
  have a1 : (-128 : Int32) ≤ b.toInt32 := by
    rw [Int32.le_iff_toInt_le, h5, show (-128 : Int32).toInt = -128 from by decide]
    omega
  have a2 : b.toInt32 ≤ (127 : Int32) := by
    rw [Int32.le_iff_toInt_le, h5, show (127 : Int32).toInt = 127 from by decide]
    omega
  simp [a1, a2]
theorem sd_fit1 (v : Int32) : fits .boolean (.int (v &&& 1)) = true := by
  obtain ⟨j, hj, e⟩ := pk_andE v (m := 1) 1 (by decide)
  rw [e]
  have : j = 0 ∨ j = 1 := by omega
  rcases this with rfl | rfl <;> rfl
section SD8C
variable {p : Program} {l : Launch} {e : Env} {R : Room} {s : State} {m : MethodId} {args : Array Value} {below : List Frame} {meth : Method} {c : Code} {Q : State → Prop} {g : sd_G} {mi : Nat} {res : ev_O} {μz : ev_M} {K : ev_K}
/-- reading a field -/
theorem sd_lget (C : sd_cx p l R s m args meth c g mi) {pc b a len : Nat} {tb : List Nat} {x : Int32} (hck : sd_k7a mi pc 0 a b len x tb = true) {q : vw_C} (hq : vwCl[a]? = some q) (hqn : q.2.2 = ev_lz a) {V : Nat → Value} {o : Nat} {H : Heap} (hO : t_OB o (g.2.1.1 a) q.2.2 (g.2.1.2 a) H V) {locs : List Loc} {cl sl : Nat} {vl : Array Slot} {vs : List Value}
    (k : W p l e R s m args below meth c H locs cl sl Q (F0 m (pc + len) vl (V b :: vs))) : W p l e R s m args below meth c H locs cl sl Q (F0 m pc vl (.ref o :: vs)) := by
  obtain ⟨hx, hb, hml, hown, hts, hX, -⟩ := C
  simp only [sd_k7a, Bool.and_eq_true] at hck
  obtain ⟨hd, hlen, hb2, hw⟩ := hck
  have el := Nat.eq_of_beq_eq_true hlen
  subst el
  rw [hq] at hw
  have hw : sd_wn (sd_y mi).cls (tb.getD 0 0) (tb.getD 1 0) (tb.getD 2 0) (q.2.1 b).1 (q.2.1 b).2.1 (q.2.1 b).2.2.1 = true := hw
  have hbn : b < q.2.2 := by rw [hqn]; exact Nat.le_of_ble_eq_true hb2
  obtain ⟨hS, hfc, kC, hkC, hkind⟩ := hX.1.1 a _ hq
  obtain ⟨cf, kf, fi, f, hi, hsl⟩ := hS b hbn
  obtain ⟨cell, q1, q2, q3, q4⟩ := hO
  have hst := (u_facts hfc hkC (u_lays hts (sd_lg hq) hbn) hi).1
  have hsv : cell.slots[f.slot]? = some (V b) := by rw [hsl]; exact q4 b hbn
  rcases sd_wn_use hts hX hw with ⟨-, hl⟩ | ⟨-, _, hl⟩
  · exact W.getf hx hb hown hl hi hst q1 (by rw [q3]; exact fun h => by cases h) hsv rfl rfl (sd_is_eq hd) k
  · exact va_Wgetf hx hb hown hl hi hst q1 (by rw [q3]; exact fun h => by cases h) hsv rfl rfl (sd_is_eq hd) k
/-- writing a field -/
theorem sd_lputf (C : sd_cx p l R s m args meth c g mi) {pc b a len : Nat} {tb : List Nat} {x : Int32} (hck : sd_k7a mi pc 1 a b len x tb = true) {q : vw_C} (hq : vwCl[a]? = some q) (hqn : q.2.2 = ev_lz a) {V : Nat → Value} {o : Nat} {v : Value} {H : Heap} (hO : t_OB o (g.2.1.1 a) q.2.2 (g.2.1.2 a) H V) {ty : FieldType} (hp : parseFieldDescriptor (q.2.1 b).2.2.1 = some ty) (hn : narrow ty v = v) (hfit : fits ty v = true)
    {locs : List Loc} {cl sl : Nat} {vl : Array Slot} {vs : List Value}
    (k : ∀ (H1 : Heap) (sl' : Nat), t_OB o (g.2.1.1 a) q.2.2 (g.2.1.2 a) H1 (updV V b v) → H1.size = H.size → (∀ p : Nat, p ≠ o → H1[p]? = H[p]?) → W p l e R s m args below meth c H1 (locs ++ [⟨o, sl'⟩]) cl sl Q (F0 m (pc + len) vl vs)) : W p l e R s m args below meth c H locs cl sl Q (F0 m pc vl (v :: .ref o :: vs)) := by
  obtain ⟨hx, hb, hml, hown, hts, hX, -, -, -, -, hinit, -⟩ := C
  simp only [sd_k7a, Bool.and_eq_true] at hck
  obtain ⟨hd, hlen, hb2, hw, hfi⟩ := hck
  have el := Nat.eq_of_beq_eq_true hlen
  subst el
  rw [hq] at hw hfi
  have hw : sd_wn (sd_y mi).cls (tb.getD 0 0) (tb.getD 1 0) (tb.getD 2 0) (q.2.1 b).1 (q.2.1 b).2.1 (q.2.1 b).2.2.1 = true := hw
  have hfi : (!(q.2.1 b).2.2.2 || (Nat.beq (tb.getD 2 0) 0 && (decide ((sd_y mi).name = "<init>") && decide ((q.2.1 b).1 = (sd_y mi).cls)))) = true := hfi
  have hbn : b < q.2.2 := by rw [hqn]; exact Nat.le_of_ble_eq_true hb2
  obtain ⟨tyf, htyf⟩ := sd_tyo hq
  have hap := va_apart (own := q.1) hts (sd_lg hq) tyf htyf (sd_nm hq) hX.1 hq
  obtain ⟨hSl, hfc, kC, hkC, hkind⟩ := hX.1.1 a _ hq
  obtain ⟨cf, kf, fi, f, hi, hsl⟩ := hSl b hbn
  obtain ⟨cell, q1, q2, q3, q4⟩ := hO
  have hlay := hts _ (sd_lg hq _ (u_in_lay hbn))
  unfold u_lay at hlay
  have hst := (u_facts hfc hkC (u_lays hts (sd_lg hq) hbn) hi).1
  have fin : ∀ H' : Heap, H'[o]? = some (cell.setSlot f.slot v) → H'.size = H.size → (∀ p, p ≠ o → H'[p]? = H[p]?) → W p l e R s m args below meth c H' (locs ++ [⟨o, f.slot⟩]) cl sl Q (F0 m (pc + 3) vl vs) := by
    intro H' e1 e2 e3
    refine k H' _ ⟨_, e1, q2, q3, ?_⟩ e2 e3
    rw [hsl]
    exact t_set q4 hap hbn _
  cases hfn : (q.2.1 b).2.2.2 with
  | false =>
    rw [hfn, if_neg (by decide)] at hlay
    have h6 := u_store hfc hkC hkind hlay hi hp hn hfit
    rcases sd_wn_use hts hX hw with ⟨-, hl⟩ | ⟨-, _, hl⟩
    · exact W.putK hx hb (f := f) ⟨hown, hl, ⟨_, _, _, hi⟩, hst⟩ (by rw [q2]; exact h6) q1 q3 (by rw [hsl]; exact k2_hasslot (q4 b hbn)) rfl rfl (sd_is_eq hd) fin
    · exact va_WputK hx hb (f := f) hown hl hi hst (by rw [q2]; exact h6) q1 q3 (by rw [hsl]; exact k2_hasslot (q4 b hbn)) rfl rfl (sd_is_eq hd) fin
  | true =>
    rw [hfn, if_pos rfl] at hlay
    rw [hfn] at hfi
    simp only [Bool.not_true, Bool.false_or, Bool.and_eq_true, decide_eq_true_eq] at hfi
    obtain ⟨hns, hnm, hcls⟩ := hfi
    have hin := hinit hnm
    have hcf : m.cls = cf := by
      obtain ⟨_, _, c', _, _, _, -, -, hf', -, -, -, hown3, -⟩ := Cond.laysFinal_spec hlay
      have e1 : c' = cf := by have := hi.symm.trans hf'; simp at this; exact this.1.symm
      rw [hcls] at hown3
      rw [← e1]; exact Option.some.inj (hown.symm.trans hown3)
    have h6 := u_fits (v := v) hfc hkC hkind (Or.inr hlay) hi hp hn hfit
    rcases sd_wn_use hts hX hw with ⟨-, hl⟩ | ⟨h0, -⟩
    · exact W.putFinK hx hb hown hl hi hst hcf hin (by rw [q2]; exact h6) q1 q3 (by rw [hsl]; exact k2_hasslot (q4 b hbn)) rfl rfl (sd_is_eq hd) fin
    · exact absurd (Nat.eq_of_beq_eq_true hns) h0
/-- the number that a field takes -/
theorem sd_okf {t : Nat} {v : Int32} (h : ev_ok t v = true) (h3 : t ≠ 3) : ∃ ty : FieldType, parseFieldDescriptor (sd_fd t) = some ty ∧ narrow ty (.int v) = .int v ∧ fits ty (.int v) = true := by
  match t, h, h3 with
  | 2, h, _ =>
    have hv : v &&& 1 = v := by simpa [ev_ok] using h
    have h01 : v = 0 ∨ v = 1 := by
      rw [← hv]
      have := pk_andE v (m := 1) 1 (by decide)
      obtain ⟨j, hj, e⟩ := this
      rw [e]
      have : j = 0 ∨ j = 1 := by omega
      rcases this with rfl | rfl
      · exact Or.inl rfl
      · exact Or.inr rfl
    refine ⟨.boolean, by show parseFieldDescriptor "Z" = _; decide +kernel, ?_, ?_⟩
    · rcases h01 with rfl | rfl <;> rfl
    · rcases h01 with rfl | rfl <;> rfl
  | 4, h, _ =>
    have hv : v.toInt8.toInt32 = v := by simpa [ev_ok] using h
    refine ⟨.byte, by show parseFieldDescriptor "B" = _; decide +kernel, by show Value.int v.toInt8.toInt32 = _; rw [hv], ?_⟩
    rw [← hv]
    exact sd_fit8 _
  | 0, _, _ => exact ⟨.int, by show parseFieldDescriptor "I" = _; decide +kernel, rfl, rfl⟩
  | 1, _, _ => exact ⟨.int, by show parseFieldDescriptor "I" = _; decide +kernel, rfl, rfl⟩
  | k + 5, _, _ => exact ⟨.int, by show parseFieldDescriptor "I" = _; decide +kernel, rfl, rfl⟩
end SD8C
