/-! ===== at and put: over any world that holds the row ===== -/
def F_at (n : Nat) (f : Nat → Int32) (i : Int32) : Int32 := if i < 0 then 0 else if Int32.ofNat n ≤ i then 0 else f i.toNatClampNeg
def F_put (n : Nat) (f : Nat → Int32) (i v : Int32) : Nat → Int32 := if i < 0 then f else if Int32.ofNat n ≤ i then f else upd f i.toNatClampNeg v
theorem vp_in_of2 {i : Int32} {n : Nat} (hn : n < 2 ^ 31) (h1 : ¬ i < 0) (h2 : ¬ Int32.ofNat n ≤ i) : vp_in i n := by
  obtain ⟨j, hj, rfl⟩ := nI_of h1
  refine vp_in_nI ?_ hn
  rcases Nat.lt_or_ge j n with q | q
  · exact q
  · exact absurd (nI_le q hj) h2
theorem kSet_self {ws : va_W} {q0 : Nat} {x : Nat × va_E} (h : ws[q0]? = some x) : ws.set q0 x = ws := by
  apply List.ext_getElem?
  intro k
  by_cases hk : q0 = k
  · subst hk
    rw [List.getElem?_set_self (List.getElem?_eq_some_iff.mp h).1, h]
  · rw [List.getElem?_set_ne hk]
set_option maxHeartbeats 4000000 in
set_option maxRecDepth 100000 in
theorem c_X11_at (l : Launch) (hz : Nat) (D : va_G) (tys : List (ClassId × FieldType)) (ws : va_W) (q0 t0 : Nat) {b n : Nat} {cA : ClassId} {f : Nat → Int32} (ha : ws[q0]? = some (b, .inl (cA, n, .inl f))) (ht : tys[t0]? = some (cA, .int)) (hn : n < 2 ^ 31) (p1 : Int32) : Met l yX11_at wsX11_at ({ frames := 0, cells := 0, slots := 0, locals := 0 }) (kR hz D vwCl tys ws [.ref b, .int p1]) (kZi (F_at n f p1)) 0 0 (fun _ => False) := by
  generalize hF : F_at n f p1 = out
  refine Met.ofW (cc := cX11_at) (maxL := 2) (ret := (some .int)) (by decide) rfl ?_
  intro p e s m args below meth c s₁ B hml hv
  obtain ⟨rfl, hP, hE⟩ := hv
  have hx := B.exec
  have hb := B.bytes
  have hr := B.returns
  have hlocks := B.notSynchronized
  have hK := hE.1
  have hl := lv_entry ([.ref b, .int p1]) (n := 2) (Nat.le_of_ble_eq_true rfl)
  rw [lg_entry_eq]
  generalize (lg_sl ([.ref b, .int p1]) ++ List.replicate (2 - (lg_sl ([.ref b, .int p1])).length) Slot.unset).toArray = ls at hl ⊢
  have hl : lv_has ls 2 [(0, .ref b), (1, .int p1)] := hl
  unfold F_at at hF
  refine lv_aload_n hx hb dX11_at_0 rfl (lv_at hl 0 rfl) ?_
  refine lv_ifnull hx hb dX11_at_1 ?_
  refine lv_iload_n hx hb dX11_at_4 rfl (lv_at hl 1 rfl) ?_
  refine lv_if_lt (tgt := 20) hx hb dX11_at_5 (by decide) (fun h1 => ?_) (fun h1 => ?_)
  · have hF := it_p h1 hF
    refine lv_iconst (v := 0) hx hb dX11_at_20 (by decide) ?_
    exact W.iret hx hb hr (fun t ht hW => ⟨_, rfl, hF, ht⟩) (fun q hq => by cases hq) dX11_at_21
  · have hF := it_n h1 hF
    refine lv_iload_n hx hb dX11_at_8 rfl (lv_at hl 1 rfl) ?_
    refine lv_aload_n hx hb dX11_at_9 rfl (lv_at hl 0 rfl) ?_
    refine va_alen hx hb hK hP q0 t0 ha ht (v := Int32.ofNat n) rfl dX11_at_10 ?_
    refine lv_icmp_ge (tgt := 20) hx hb dX11_at_11 (by decide) (fun h2 => ?_) (fun h2 => ?_)
    · have hF := it_p h2 hF
      refine lv_iconst (v := 0) hx hb dX11_at_20 (by decide) ?_
      exact W.iret hx hb hr (fun t ht hW => ⟨_, rfl, hF, ht⟩) (fun q hq => by cases hq) dX11_at_21
    · have hF := it_n h2 hF
      refine lv_aload_n hx hb dX11_at_14 rfl (lv_at hl 0 rfl) ?_
      refine lv_iload_n hx hb dX11_at_15 rfl (lv_at hl 1 rfl) ?_
      refine va_iald hx hb hK hP q0 t0 ha ht (vp_in_of2 hn h1 h2) dX11_at_16 ?_
      refine lv_goto (tgt := 21) hx hb dX11_at_17 (by decide) ?_
      exact W.iret hx hb hr (fun t ht hW => ⟨_, rfl, hF, ht⟩) (fun q hq => by cases hq) dX11_at_21
set_option maxHeartbeats 4000000 in
set_option maxRecDepth 100000 in
theorem c_X11_put (l : Launch) (hz : Nat) (D : va_G) (tys : List (ClassId × FieldType)) (ws : va_W) (q0 t0 : Nat) {b n : Nat} {cA : ClassId} {f : Nat → Int32} (ha : ws[q0]? = some (b, .inl (cA, n, .inl f))) (ht : tys[t0]? = some (cA, .int)) (hn : n < 2 ^ 31) (p1 p2 : Int32) : Met l yX11_put wsX11_put ({ frames := 0, cells := 0, slots := 0, locals := 0 }) (kW hz D vwCl tys ws [.ref b, .int p1, .int p2]) (kQ D vwCl none ws (ws.set q0 (b, .inl (cA, n, .inl (F_put n f p1 p2))))) 0 0 (kAd ws) := by
  generalize hF : F_put n f p1 p2 = out
  refine Met.ofW (cc := cX11_put) (maxL := 3) (ret := none) (by decide) rfl ?_
  intro p e s m args below meth c s₁ B hml hv
  obtain ⟨rfl, hP, hE, hD0⟩ := hv
  have hx := B.exec
  have hb := B.bytes
  have hr := B.returns
  have hlocks := B.notSynchronized
  have hK := hE.1
  have hD := kD_self hD0
  have hS : va_S (kAd ws) s.heap s.heap [] := va_S.rf
  have hl := lv_entry ([.ref b, .int p1, .int p2]) (n := 3) (Nat.le_of_ble_eq_true rfl)
  rw [lg_entry_eq]
  generalize (lg_sl ([.ref b, .int p1, .int p2]) ++ List.replicate (3 - (lg_sl ([.ref b, .int p1, .int p2])).length) Slot.unset).toArray = ls at hl ⊢
  have hl : lv_has ls 3 [(0, .ref b), (1, .int p1), (2, .int p2)] := hl
  unfold F_put at hF
  refine lv_aload_n hx hb dX11_put_0 rfl (lv_at hl 0 rfl) ?_
  refine lv_ifnull hx hb dX11_put_1 ?_
  refine lv_iload_n hx hb dX11_put_4 rfl (lv_at hl 1 rfl) ?_
  refine lv_if_lt (tgt := 18) hx hb dX11_put_5 (by decide) (fun h1 => ?_) (fun h1 => ?_)
  · have hF := it_p h1 hF
    subst hF
    exact W.vret hx hb hr (fun t ht hW => ⟨rfl, by rw [ht, kSet_self ha]; exact hP, hS.F ht⟩) hS.2.2 dX11_put_18
  · have hF := it_n h1 hF
    refine lv_iload_n hx hb dX11_put_8 rfl (lv_at hl 1 rfl) ?_
    refine lv_aload_n hx hb dX11_put_9 rfl (lv_at hl 0 rfl) ?_
    refine va_alen hx hb hK hP q0 t0 ha ht (v := Int32.ofNat n) rfl dX11_put_10 ?_
    refine lv_icmp_ge (tgt := 18) hx hb dX11_put_11 (by decide) (fun h2 => ?_) (fun h2 => ?_)
    · have hF := it_p h2 hF
      subst hF
      exact W.vret hx hb hr (fun t ht hW => ⟨rfl, by rw [ht, kSet_self ha]; exact hP, hS.F ht⟩) hS.2.2 dX11_put_18
    · have hF := it_n h2 hF
      subst hF
      refine lv_aload_n hx hb dX11_put_14 rfl (lv_at hl 0 rfl) ?_
      refine lv_iload_n hx hb dX11_put_15 rfl (lv_at hl 1 rfl) ?_
      refine lv_iload_n hx hb dX11_put_16 rfl (lv_at hl 2 rfl) ?_
      refine va_iast hx hb hK hP hD hS q0 t0 ha ht (vp_in_of2 hn h1 h2) dX11_put_17 (fun H locs hP hD hS => ?_)
      exact W.vret hx hb hr (fun t ht hW => ⟨rfl, by rw [ht]; exact hP, hS.F ht⟩) hS.2.2 dX11_put_18
