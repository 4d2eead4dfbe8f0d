/-! SOUNDNESS, 7: makings -/
theorem sd_bif {b : Bool} {x : ev_T} {z : ev_O × ev_M} (h : (bif b then x else none) = some z) : b = true ∧ x = some z := by
  cases b with
  | false => cases h
  | true => exact ⟨rfl, h⟩
theorem sd_cat2 (v : Value) : v.category ≤ 2 := by cases v <;> simp [Value.category]
theorem sd_wdc {g : sd_G} {n : sd_N} : ∀ {l : List ev_V} {r : List Value}, sd_s g n l r → (r.map fun v => v.category).sum ≤ ev_wd l
  | [], [], _ => Nat.le_refl _
  | x :: l, v :: r, h => by
    have ih := sd_wdc h.2
    have hv := h.1
    simp only [List.map_cons, List.sum_cons]
    match x, hv with
    | .inl (.inl y), hv =>
      rw [show v = .int y from hv]
      have : (Value.int y).category = 1 := rfl
      show _ ≤ 1 + ev_wd l
      omega
    | .inl (.inr y), hv =>
      have := sd_cat2 v
      show _ ≤ 2 + ev_wd l
      omega
    | .inr (.inl y), hv =>
      have := sd_cat2 v
      show _ ≤ 2 + ev_wd l
      omega
    | .inr (.inr q), hv =>
      have := sd_v.cat1 hv
      show _ ≤ 1 + ev_wd l
      omega
  | [], _ :: _, h => h.elim
  | _ :: _, [], h => h.elim
theorem sd_iv_len : sd_iv.length = 401 := by decide +kernel
theorem sd_sq_lt {r i : Nat} (hr : r < 62) (hi : i < ev_cn r) : ev_sq r i < 401 := by
  have h := (List.getElem?_eq_some_iff.mp (sd_iv_ok r hr i hi)).1
  rw [sd_iv_len] at h
  exact h
theorem sd_cnI {r i : Nat} (h : i < ev_cn r) (h4 : r < 44) : i < sd_cn r := by
  unfold sd_cn
  rw [if_pos h4]
  exact h
theorem sd_nl_off {lk : Nat → Nat → Nat → Bool} {r i r' i' : Nat} (k : Nat) (h : ¬ (r' = r ∧ i' = i)) : ev_nl lk r i r' i' k = lk r' i' k := by
  unfold ev_nl
  have : (Nat.beq r' r && Nat.beq i' i && ev_ir r' k) = false := by
    cases h1 : Nat.beq r' r with
    | false => rfl
    | true =>
      cases h2 : Nat.beq i' i with
      | false => rfl
      | true => exact absurd ⟨Nat.eq_of_beq_eq_true h1, Nat.eq_of_beq_eq_true h2⟩ h
  rw [this]
  rfl
theorem sd_nl_on {lk : Nat → Nat → Nat → Bool} {r i k : Nat} (h : ev_ir r k = true) : ev_nl lk r i r i k = false := by
  unfold ev_nl
  rw [h]
  simp
/-- a thing is made -/
theorem sd_R.new {g : sd_G} {n : Nat} {lk : Nat → Nat → Nat → Bool} {d : Nat → Nat → Nat → Int32} {o : ev_W} {H H1 : Heap} {r i : Nat} (h : sd_R g (n, lk, d, o) H) (hi : i < sd_cn r) (hn : n = ev_sq r i + 1) (hz : H1.size = H.size + 1) (oq : ∀ q : Nat, q < H.size → H1[q]? = H[q]?)
    (hc : sd_c g (n + 1, ev_nl lk r i, ev_w3 d r i (fun _ => 0), o) r i H1) : sd_R g (n + 1, ev_nl lk r i, ev_w3 d r i (fun _ => 0), o) H1 := by
  obtain ⟨h44, hie⟩ := sd_cn_ev hi
  have hr : r < 62 := by omega
  have hsq := sd_sq383 r h44 i hie
  obtain ⟨h1, h2, h3, h4, h5, h6, h7, h8⟩ := h
  have hs : H.size + 1 = g.1 + (n + o.1) := h2 (by show n < 1000; omega)
  have ho0 : o.1 = 0 := h7 (by show n < 384; omega)
  have old : ∀ r' i', r' < 62 → sd_al (n + 1, o.1, o.2.1) r' i' → ¬ (r' = r ∧ i' = i) → sd_al (n, o.1, o.2.1) r' i' := by
    intro r' i' hr' ha hne
    refine ⟨ha.1, ?_⟩
    have h9 : ev_sq r' i' + 1 < n + 1 := ha.2
    have h8 : ev_sq r' i' ≠ ev_sq r i := fun e => by
      have a := sd_iv_ok r' hr' i' (sd_cn_ev ha.1).2
      have b := sd_iv_ok r hr i hie
      rw [e, b] at a
      cases a
      exact hne ⟨rfl, rfl⟩
    show ev_sq r' i' + 1 < n
    omega
  have hle : sd_le (n, o.1, o.2.1) (n + 1, o.1, o.2.1) := ⟨Nat.le_succ n, Nat.le_refl _, fun _ _ => rfl⟩
  refine ⟨fun r' i' hr' ha => ?_, fun _ => ?_, fun r' i' k hr' ha a b c => ?_, ?_, ?_, ?_, fun _ => ho0, ⟨fun r' i' a => ?_, fun r' i' k j a => ?_⟩⟩
  · by_cases e : r' = r ∧ i' = i
    · rw [e.1, e.2]; exact hc
    · have hcc := h1 r' i' hr' (old r' i' hr' ha e)
      exact hcc.kept (oq _ hcc.lt) (fun k => sd_nl_off k e) (fun k => sd_w3_off k e)
  · show H1.size + 1 = g.1 + ((n + 1) + o.1)
    omega
  · by_cases e : r' = r ∧ i' = i
    · exfalso
      have c : ev_nl lk r i r' i' k = true := c
      rw [e.1, e.2] at c
      rw [e.1] at a
      rw [sd_nl_on a] at c
      cases c
    · have c : ev_nl lk r i r' i' k = true := c
      rw [sd_nl_off k e] at c
      obtain ⟨x, y⟩ := h3 r' i' k hr' (old r' i' hr' ha e) a b c
      exact ⟨x, y.mono hle⟩
  · rw [← h4]
    funext k
    exact sd_w3_off k (fun e => by omega)
  · show ev_w3 d r i (fun _ => 0) 104 0 0 = _
    rw [sd_w3_off 0 (fun e => by omega)]
    exact h5
  · show g.1 ≤ H1.size
    have : g.1 ≤ H.size := h6
    omega
  · have q : i' < o.1 := a.2.2.1
    omega
  · have q : i' < o.1 := a.2.2.1
    omega
theorem sd_vnew {g : sd_G} {n r i c : Nat} {t : Nat → Nat} (hi : i < sd_cn r) (hn : n = ev_sq r i + 1) : sd_v g (n + 1, c, t) (.inr (.inr (r, i))) (.ref (sd_ad g r i)) := by
  have hr := (sd_cn_ev hi).1
  exact sd_vr (sd_gd1 (by omega) ⟨hi, by show ev_sq r i + 1 < n + 1; omega⟩) (sd_kr1 (by omega))
theorem sd_le1 {n c : Nat} {t : Nat → Nat} : sd_le (n, c, t) (n + 1, c, t) := ⟨Nat.le_succ n, Nat.le_refl _, fun _ _ => rfl⟩
theorem sd_mk_eq {r i pc len c s c' s' m : Nat} {ls st : List ev_V} {n : Nat} {lk : Nat → Nat → Nat → Bool} {d : Nat → Nat → Nat → Int32} {o : ev_W} {go : ev_K} {z : ev_O × ev_M} (h : ev_mk r i pc len c s c' s' m ls st (n, lk, d, o) go = some z) :
    (i < ev_cn r ∧ n = ev_sq r i + 1 ∧ c + c' ≤ ev_mc m ∧ s + s' ≤ ev_ms m) ∧ go (pc + len) ls (.inr (.inr (r, i)) :: st) (n + 1, ev_nl lk r i, ev_w3 d r i (fun _ => 0), o) (c + c') (s + s') = some z := by
  obtain ⟨hc, h⟩ := sd_bif h
  simp only [Bool.and_eq_true] at hc
  exact ⟨⟨Nat.le_of_ble_eq_true hc.1, Nat.eq_of_beq_eq_true hc.2.1, Nat.le_of_ble_eq_true hc.2.2.1, Nat.le_of_ble_eq_true hc.2.2.2⟩, h⟩
theorem sd_size {g : sd_G} {n : Nat} {lk : Nat → Nat → Nat → Bool} {d : Nat → Nat → Nat → Int32} {o : ev_W} {H : Heap} {r i : Nat} (h : sd_R g (n, lk, d, o) H) (hi : i < sd_cn r) (hn : n = ev_sq r i + 1) : H.size = sd_ad g r i := by
  obtain ⟨h44, hie⟩ := sd_cn_ev hi
  have hsq := sd_sq383 r h44 i hie
  have hs : H.size + 1 = g.1 + (n + o.1) := h.2.1 (by show n < 1000; omega)
  have ho : o.1 = 0 := h.2.2.2.2.2.2.1 (by show n < 384; omega)
  unfold sd_ad
  rw [if_pos (by omega)]
  omega
theorem sd_S.new {g : sd_G} {H0 H H1 : Heap} {locs : List Loc} (hS : va_S (sd_A g) H0 H locs) (hz : H.size ≤ H1.size) (oq : ∀ q : Nat, q < H.size → H1[q]? = H[q]?) : va_S (sd_A g) H0 H1 locs :=
  ⟨Nat.le_trans hS.1 hz, fun q a b => by rw [oq q (Nat.lt_of_lt_of_le a hS.1)]; exact hS.2.1 q a b, hS.2.2⟩
/-- the words of a class that is made -/
def sd_ck (ci : Nat) : Bool := (vwCl[ci]?).all fun q => lw_tbl.any (fun w => decide (w = .instantiable q.1 q.2.2) && goodWord w) && lw_tbl.any (fun w => decide (w = .initialized q.1) && goodWord w)
theorem sd_ck_ok : ∀ ci, ci < 15 → sd_ck ci = true := by decide +kernel
theorem sd_any {w : Cond} (h : lw_tbl.any (fun x => decide (x = w) && goodWord x) = true) : w ∈ sd_gw := by
  obtain ⟨x, hx, h2⟩ := List.any_eq_true.mp h
  simp only [Bool.and_eq_true, decide_eq_true_eq] at h2
  obtain ⟨rfl, hg⟩ := h2
  exact List.mem_filter.mpr ⟨List.mem_append_left _ hx, hg⟩
def sd_at4 (a : Nat) : ArrayType := match a with
  | 1 => .int
  | 2 => .byte
  | _ => .boolean
def sd_aw (a : Nat) : Bool := lw_tbl.any fun x => decide (x = .arrayClass (newarray.typeOf (sd_at4 a))) && goodWord x
theorem sd_aw_ok : ∀ a, a < 4 → sd_aw a = true := by decide +kernel
def sd_w8 (f : Cond) : Bool := lw_tbl.any fun x => decide (x = f) && goodWord x
theorem sd_oi_ok : sd_w8 (.instanceMethod Lib.objectInit) = true ∧ sd_w8 (.code Lib.objectInit ⟨#[0xb1]⟩ 1 none) = true := by decide +kernel
theorem sd_ao_ok : sd_w8 (.native arraycopyName) = true ∧ sd_w8 (.static arraycopyName) = true ∧ sd_w8 (.initialized "java/lang/System") = true := by decide +kernel
theorem sd_av_ok : lw_tbl.any (fun x => decide (x = .arrayOver (.object RX8))) = true := by decide +kernel
section SD8
variable {p : Program} {l : Launch} {e : Env} {R : Room} {s : State} {m : MethodId} {args : Array Value} {below : List Frame} {meth : Method} {c : Code} {Q : State → Prop} {g : sd_G} {mi : Nat} {res : ev_O} {μz : ev_M} {K : ev_K}
theorem sd_newO (C : sd_cx p l R s m args meth c g mi) (hK : sd_K p l e R s m args below meth c Q g mi res μz K) {pc a cp r i : Nat} {q : vw_C} (hq : vwCl[a]? = some q) (hd : decode (sd_cc mi) pc = .ok (.new cp, 3)) (hw : (Cond.classLink (sd_y mi).cls cp q.1) ∈ sd_gw) (hkn : ev_kn r = (0, a)) (h44 : r < 44)
    {ls st : List ev_V} {n : Nat} {lk : Nat → Nat → Nat → Bool} {d : Nat → Nat → Nat → Int32} {o : ev_W} {cl sl : Nat} {H : Heap} {locs : List Loc} {vl : Array Slot} {vs : List Value}
    (hev : ev_mk r i pc 3 cl sl 1 (ev_nf a) mi ls st (n, lk, d, o) K = some (res, μz)) (hl : sd_l g (n, o.1, o.2.1) (ev_ml mi) ls vl) (hs : sd_s g (n, o.1, o.2.1) st vs) (hS : va_S (sd_A g) s.heap H locs) (hR : sd_R g (n, lk, d, o) H) : W p l e R s m args below meth c H locs cl sl Q (F0 m pc vl vs) := by
  obtain ⟨hx, hb, hml, hown, hts, hX, -, -, -, ⟨hrf, hrl, hrc, hrs⟩, -⟩ := C
  obtain ⟨⟨hie, hn, hm1, hm2⟩, hev⟩ := sd_mk_eq hev
  have hi := sd_cnI hie h44
  have h11 : a < 11 := by
    have := sd_k11 r h44 (by rw [hkn])
    rwa [hkn] at this
  have hck := sd_ck_ok a (sd_ci hq)
  unfold sd_ck at hck
  rw [hq] at hck
  have hck : (lw_tbl.any (fun w => decide (w = .instantiable q.1 q.2.2) && goodWord w) && lw_tbl.any (fun w => decide (w = .initialized q.1) && goodWord w)) = true := hck
  simp only [Bool.and_eq_true] at hck
  obtain ⟨hSl, hfc, kC0, hkC0, hkind⟩ := hX.1.1 a _ hq
  obtain ⟨ty, hty⟩ := sd_tyo hq
  have hsz := sd_size hR hi hn
  have enf := (sd_fl hq h11).1
  rw [← enf] at hm2 hev
  refine W.newcK (g := F0 m pc vl vs) hx hb hown (hts _ hw) (hts _ (sd_any hck.1)) (hts _ (sd_any hck.2)) rfl hd (by rw [hrc]; exact hm1) (by rw [hrs]; exact hm2) hfc hsz fun H1 kC hkC e1 z1 o1 => ?_
  rw [← hsz] at o1 z1
  have hO := u_born ty hts (sd_lg hq) (hX.1.1 a _ hq) hkC e1 hty
  have hRn := hR.new hi hn z1 o1 (by
    unfold sd_c
    rw [hkn]
    refine ⟨q, hq, t_OB.to hO (fun k hk => ?_)⟩
    show defaultValue (ty k) = (if ev_rf a k = true then sd_lv g (n + 1, ev_nl lk r i, ev_w3 d r i (fun _ => 0), o) r i k else .int (ev_w3 d r i (fun _ => 0) r i k))
    have hpk := hty k hk
    rcases ((sd_fl hq h11).2 k hk).2 with ⟨h1, -, t, h3, h4⟩ | ⟨h1, -, h3⟩
    · rw [h1, if_pos rfl]
      rw [h3] at hpk
      cases hpk
      unfold sd_lv
      rw [if_neg (by
        show ¬ ev_nl lk r i r i k = true
        rw [sd_nl_on (by unfold ev_ir; rw [hkn]; exact h1)]
        decide)]
      show defaultValue (ty k) = .null
      generalize ty k = t at h4
      cases t <;> first | rfl | cases h4
    · rw [h1, if_neg (by decide), sd_w3_on]
      rw [h3] at hpk
      have hft : ev_ft a k = 2 ∨ ev_ft a k = 1 := by
        unfold ev_ft
        cases Nat.beq a 8 && Nat.beq k 1 <;> simp
      rcases hft with q2 | q2
      · rw [q2] at hpk
        have h9 : parseFieldDescriptor "Z" = some .boolean := by decide +kernel
        have hpk : parseFieldDescriptor "Z" = some (ty k) := hpk
        rw [h9] at hpk
        rw [← Option.some.inj hpk]
        rfl
      · rw [q2] at hpk
        have h9 : parseFieldDescriptor "I" = some .int := by decide +kernel
        have hpk : parseFieldDescriptor "I" = some (ty k) := hpk
        rw [h9] at hpk
        rw [← Option.some.inj hpk]
        rfl)
  exact hK _ _ _ _ _ _ _ _ _ _ ⟨hm1, hm2⟩ hev (hl.mono sd_le1) ⟨sd_vnew hi hn, hs.mono sd_le1⟩ (sd_S.new hS (by omega) o1) hRn
theorem sd_tk {g : sd_G} {a : Nat} (h0 : 0 < a) (h5 : a < 4) : (sd_ty g)[a - 1]? = some (g.2.2.1 a, newarray.typeOf (sd_at4 a)) := by
  match a, h0, h5 with
  | 1, _, _ => rfl
  | 2, _, _ => rfl
  | 3, _, _ => rfl
theorem sd_newA (C : sd_cx p l R s m args meth c g mi) (hK : sd_K p l e R s m args below meth c Q g mi res μz K) {pc a N r i : Nat} {x : Int32} (h0 : 0 < a) (h5 : a < 4) (hd : decode (sd_cc mi) pc = .ok (.newarray (sd_at4 a), 2)) (hkn : ev_kn r = (a, N)) (h44 : r < 44) (hx0 : ¬ x < 0) (hxN : x.toNatClampNeg = N) (hby : N * 8 ≤ 536870912)
    {ls st : List ev_V} {n : Nat} {lk : Nat → Nat → Nat → Bool} {d : Nat → Nat → Nat → Int32} {o : ev_W} {cl sl : Nat} {H : Heap} {locs : List Loc} {vl : Array Slot} {vs : List Value}
    (hev : ev_mk r i pc 2 cl sl 1 N mi ls st (n, lk, d, o) K = some (res, μz)) (hl : sd_l g (n, o.1, o.2.1) (ev_ml mi) ls vl) (hs : sd_s g (n, o.1, o.2.1) st vs) (hS : va_S (sd_A g) s.heap H locs) (hR : sd_R g (n, lk, d, o) H) : W p l e R s m args below meth c H locs cl sl Q (F0 m pc vl (.int x :: vs)) := by
  obtain ⟨hx, hb, hml, hown, hts, hX, -, -, -, ⟨hrf, hrl, hrc, hrs⟩, -⟩ := C
  obtain ⟨⟨hie, hn, hm1, hm2⟩, hev⟩ := sd_mk_eq hev
  have hi := sd_cnI hie h44
  have hsz := sd_size hR hi hn
  have hbytes : N * componentBytes (newarray.typeOf (sd_at4 a)) ≤ 536870912 := by
    have : componentBytes (newarray.typeOf (sd_at4 a)) ≤ 8 := by
      match a, h0, h5 with
      | 1, _, _ => decide
      | 2, _, _ => decide
      | 3, _, _ => decide
    exact Nat.le_trans (Nat.mul_le_mul_left N this) hby
  refine va_newaK (g := F0 m pc vl (.int x :: vs)) hx hb (hts _ (sd_any (sd_aw_ok a h5))) rfl hd rfl hx0 hxN hbytes (by rw [hrc]; exact hm1) (by rw [hrs]; exact hm2) hsz fun H1 cA e1 z1 o1 hAr hNm => ?_
  rw [← hsz] at o1 z1
  have hcA : cA = g.2.2.1 a := by
    have h9 := (hX.1.2 _ _ (sd_tk h0 h5)).2
    have h8 : s.vm.findClass ("[" ++ (newarray.typeOf (sd_at4 a)).toString) = some (g.2.2.1 a) := by
      match a, h0, h5, h9 with
      | 1, _, _, h9 => exact h9
      | 2, _, _, h9 => exact h9
      | 3, _, _, h9 => exact h9
    exact Option.some.inj (hNm.symm.trans h8)
  subst hcA
  have hRn := hR.new hi hn z1 o1 (by
    unfold sd_c
    rw [hkn]
    match a, h0, h5, e1, hkn with
    | 1, _, _, e1, _ =>
      show _ = some (arrV (g.2.2.1 1) N (fun k => .int (ev_w3 d r i (fun _ => 0) r i k)))
      rw [e1]
      congr 2
      funext k
      rw [sd_w3_on]
      rfl
    | 2, _, _, e1, _ =>
      show _ = some (arrV (g.2.2.1 2) N (fun k => .int (ev_w3 d r i (fun _ => 0) r i k)))
      rw [e1]
      congr 2
      funext k
      rw [sd_w3_on]
      rfl
    | 3, _, _, e1, _ =>
      show _ = some (arrV (g.2.2.1 3) N (fun k => .int (ev_w3 d r i (fun _ => 0) r i k)))
      rw [e1]
      congr 2
      funext k
      rw [sd_w3_on]
      rfl)
  exact hK _ _ _ _ _ _ _ _ _ _ ⟨hm1, hm2⟩ hev (hl.mono sd_le1) ⟨sd_vnew hi hn, hs.mono sd_le1⟩ (sd_S.new hS (by omega) o1) hRn
theorem sd_newR (C : sd_cx p l R s m args meth c g mi) (hK : sd_K p l e R s m args below meth c Q g mi res μz K) {pc cp N r i : Nat} {x : Int32} (hd : decode (sd_cc mi) pc = .ok (.anewarray cp, 3)) (hw : (Cond.classLink (sd_y mi).cls cp RX8) ∈ sd_gw) (hkn : ev_kn r = (5, N)) (h44 : r < 44) (hx0 : ¬ x < 0) (hxN : x.toNatClampNeg = N) (hby : N * 4 ≤ 536870912)
    {ls st : List ev_V} {n : Nat} {lk : Nat → Nat → Nat → Bool} {d : Nat → Nat → Nat → Int32} {o : ev_W} {cl sl : Nat} {H : Heap} {locs : List Loc} {vl : Array Slot} {vs : List Value}
    (hev : ev_mk r i pc 3 cl sl 1 N mi ls st (n, lk, d, o) K = some (res, μz)) (hl : sd_l g (n, o.1, o.2.1) (ev_ml mi) ls vl) (hs : sd_s g (n, o.1, o.2.1) st vs) (hS : va_S (sd_A g) s.heap H locs) (hR : sd_R g (n, lk, d, o) H) : W p l e R s m args below meth c H locs cl sl Q (F0 m pc vl (.int x :: vs)) := by
  obtain ⟨hx, hb, hml, hown, hts, hX, -, -, -, ⟨hrf, hrl, hrc, hrs⟩, -⟩ := C
  obtain ⟨⟨hie, hn, hm1, hm2⟩, hev⟩ := sd_mk_eq hev
  have hi := sd_cnI hie h44
  have hsz := sd_size hR hi hn
  have hover : va_AO RX8 s := by
    obtain ⟨w, h1, h2⟩ := List.any_eq_true.mp sd_av_ok
    have h2 := of_decide_eq_true h2
    subst h2
    exact hX.2.1 _ h1 rfl
  refine W.anew (g := F0 m pc vl (.int x :: vs)) hx hb hown (hts _ hw) (va_AO.use hover) rfl hd rfl hx0 (by rw [hxN]; exact hby) (by rw [hrc]; exact hm1) (by rw [hrs, hxN]; exact hm2) fun cA kA comp f1 f2 f3 f4 => ?_
  generalize hH1 : H.push ({ cls := cA, slots := Array.replicate x.toNatClampNeg .null, vm := .none } : Cell) = H1
  have z1 : H1.size = H.size + 1 := by rw [← hH1, Array.size_push]
  have e1 : H1[H.size]? = some (arrV cA N (fun _ => .null)) := by rw [← hH1, Array.getElem?_push_size, ← hxN, ← arrV_new]
  have o1 : ∀ q : Nat, q < H.size → H1[q]? = H[q]? := fun q hq => by rw [← hH1, Array.getElem?_push, if_neg (Nat.ne_of_lt hq)]
  have hcA : cA = g.2.2.1 5 := by
    obtain ⟨kA2, comp2, g1, g2, g3, g4⟩ := (hX.1.2 4 _ rfl).2
    first
    | exact Option.some.inj (f1.symm.trans g4)
    | exact Option.some.inj (g4.symm.trans f1).symm
  subst hcA
  have hRn := hR.new hi hn z1 o1 (by
    unfold sd_c
    rw [hkn]
    show _ = some (arrV (g.2.2.1 5) N (fun k => sd_lv g (n + 1, ev_nl lk r i, ev_w3 d r i (fun _ => 0), o) r i k))
    rw [← hsz, e1]
    congr 2
    funext k
    unfold sd_lv
    rw [if_neg (by
      show ¬ ev_nl lk r i r i k = true
      rw [sd_nl_on (by unfold ev_ir; rw [hkn]; rfl)]
      decide)])
  rw [hsz, hxN]
  exact hK _ _ _ _ _ _ _ _ _ _ ⟨hm1, hm2⟩ hev (hl.mono sd_le1) ⟨sd_vnew hi hn, hs.mono sd_le1⟩ (sd_S.new hS (by omega) o1) hRn
/-- arraycopy into a row of ints -/
theorem sd_copy (C : sd_cx p l R s m args meth c g mi) {pc cp : Nat} (hd : decode (sd_cc mi) pc = .ok (.invokestatic cp, 3)) (hw : (Cond.methodLink (sd_y mi).cls cp arraycopyName) ∈ sd_gw) (hfr : 1 ≤ ev_fr mi) (hlr : 8 + (nativeFrameWords "java/lang/System" "arraycopy" 5 + 11) ≤ ev_lr mi)
    {cl sl : Nat} {H : Heap} {locs : List Loc} {vl : Array Slot} {rest : List Value} {b0 n0 a n1 : Nat} {f h : Nat → Int32} {scr : Cell} {c1 : ClassId} {sp dp n : Int32}
    (hc0 : H[b0]? = some scr) (hs2 : s.isArrayOf scr .int) (hs3 : scr.vm ≠ .unknown) (hs4 : n0 ≤ scr.slots.size) (hs5 : ∀ j : Nat, j < n0 → scr.slots[j]? = some (.int (f j)))
    (hc1 : H[a]? = some (arrV c1 n1 (fun j => .int (h j)))) (ht1 : ∀ (N : Nat) (z : Nat → Value), s.isArrayOf (arrV c1 N z) .int) (hsize : vl.size = ev_ml mi) (hS : va_S (sd_A g) s.heap H locs) (haA : sd_A g a) (hwd : (rest.map fun v => v.category).sum ≤ 8)
    (h1 : ¬ sp < 0) (h2 : ¬ dp < 0) (h3 : ¬ n < 0) (h4 : sp.toNatClampNeg + n.toNatClampNeg ≤ n0) (h5 : dp.toNatClampNeg + n.toNatClampNeg ≤ n1)
    (kk : ∀ (H1 : Heap) (locs1 : List Loc), H1[a]? = some (arrV c1 n1 (fun j => .int (va_cpy f h sp.toNatClampNeg dp.toNatClampNeg n.toNatClampNeg j))) → H1.size = H.size → (∀ q : Nat, q ≠ a → H1[q]? = H[q]?) → va_S (sd_A g) s.heap H1 locs1 → W p l e R s m args below meth c H1 locs1 cl sl Q (F0 m (pc + 3) vl rest)) :
    W p l e R s m args below meth c H locs cl sl Q (F0 m pc vl (.int n :: .int dp :: .ref a :: .int sp :: .ref b0 :: rest)) := by
  obtain ⟨hx, hb, hml, hown, hts, hX, -, -, -, ⟨hrf, hrl, hrc, hrs⟩, -⟩ := C
  have nn : ∀ z : Int32, ¬ z < 0 → z.toInt = (z.toNatClampNeg : Int) := by
    intro z hz
    have hz0 : (0 : Int) ≤ z.toInt := by
      have := Int32.not_lt.mp hz
      simpa using Int32.le_iff_toInt_le.mp this
    show z.toInt = ((z.toInt.toNat : Nat) : Int)
    omega
  intro T hT X
  obtain ⟨hs6, k0, hk0, cm0, hkk0⟩ := hs2
  obtain ⟨-, k1, hk1, cm1, hkk1⟩ := ht1 n1 (fun j => .int (h j))
  obtain ⟨vm', X', step⟩ := X.arraycopy hx hown (hts _ hw) (hts _ (sd_any sd_ao_ok.1)) (hts _ (sd_any sd_ao_ok.2.1)) (hts _ (sd_any sd_ao_ok.2.2)) (src := b0) (dst := a) (cs := scr) (cd := arrV c1 n1 (fun j => .int (h j))) (srcPos := sp) (destPos := dp) (n := n) (by rw [hT]; exact hc0) (by rw [hT]; exact hc1)
    hs6 (fun _ h => by cases h) hs3 (fun h => by cases h) hk0 hk1 hkk0 hkk1 (by simp [refKind]) h1 h2 h3
    (by rw [nn sp h1, nn n h3]; omega)
    (by rw [nn dp h2, nn n h3]; show ¬ _ > ((arrV c1 n1 (fun j => .int (h j))).slots.size : Int); rw [arrV_size]; omega)
    (fun vm₁ _ i hi => by
      have e : scr.slots.getD (sp.toNatClampNeg + i) .null = .int (f (sp.toNatClampNeg + i)) := by
        rw [Array.getD_eq_getD_getElem?, hs5 _ (by omega)]
        rfl
      refine ⟨?_, ?_⟩
      · rw [e]
        rfl
      · rw [e]
        exact trivial)
    (g := F0 m pc vl (.int n :: .int dp :: .ref a :: .int sp :: .ref b0 :: rest)) rfl (by rw [hml]; exact hsize) (rest := rest) rfl (by rw [hb]; exact hd) (by rw [hrf]; exact hfr) (by rw [hrl]; show 2 * 0 + _ + _ ≤ _; omega)
  have e1 : copied scr (arrV c1 n1 (fun j => .int (h j))) sp dp n = arrV c1 n1 (fun j => .int (va_cpy f h sp.toNatClampNeg dp.toNatClampNeg n.toNatClampNeg j)) := va_copiedX (fun z => .int z) scr c1 f h hs5 h4
  rw [e1] at X' step
  generalize hcell : arrV c1 n1 (fun j => .int (va_cpy f h sp.toNatClampNeg dp.toNatClampNeg n.toNatClampNeg j)) = ce at X' step kk
  have hl : a < H.size := (Array.getElem?_eq_some_iff.mp hc1).1
  have hheap : ((T.setVm vm').setCell a ce).heap = H.setIfInBounds a ce := by rw [← hT]; rfl
  have oq : ∀ q : Nat, q ≠ a → (H.setIfInBounds a ce)[q]? = H[q]? := fun q hq => by simp [Array.getElem?_setIfInBounds, Ne.symm hq]
  obtain ⟨t, a1, b1⟩ := kk (H.setIfInBounds a ce) _ (show (H.setIfInBounds a _)[a]? = some _ by simp [Array.getElem?_setIfInBounds, hl]) (by simp) oq ⟨by simp; exact hS.1, fun q g1 g2 => by
      rw [oq q (fun e => g2 (by rw [e]; exact haA))]
      exact hS.2.1 q g1 g2, fun q hq => by
      rcases List.mem_append.mp hq with h | h
      · exact hS.2.2 q h
      · obtain ⟨z, -, hz⟩ := List.mem_map.mp h
        rw [← hz]
        exact haA⟩ _ hheap X'
  exact ⟨t, step t a1, b1⟩
end SD8
