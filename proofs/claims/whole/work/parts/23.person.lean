/-! ===== Town.personAt: a kind's object, or null ===== -/
def F_X9_personAt (f0 : Nat → Int32) (g0 : Nat → Int64) (a0 : Nat → Nat → Int32) (p1 : Int32) : Int32 := if (F_X9_has f0 g0 a0 p1) = 0 then (-1) else if 5 ≤ p1 then (-1) else a0 31 p1.toNatClampNeg
theorem has_nn {f0 : Nat → Int32} {g0 : Nat → Int64} {a0 : Nat → Nat → Int32} {p1 : Int32} (h : ¬ (F_X9_has f0 g0 a0 p1) = 0) : ¬ p1 < 0 := by
  intro q
  exact h (by unfold F_X9_has; rw [if_pos q])
set_option maxHeartbeats 4000000 in
set_option maxRecDepth 100000 in
theorem c_X9_personAt (l : Launch) (hz : Nat) (D : va_G) (ad : Nat → Nat) (ck : Nat → ClassId) (f0 : Nat → Int32) (g0 : Nat → Int64) (a0 : Nat → Nat → Int32) (p1 : Int32) : Met l yX9_personAt wsX9_personAt ({ frames := 1, cells := 0, slots := 0, locals := 21 }) (kR hz D vwCl (tX ck) (wX ad ck f0 g0 a0) [.ref (ad 2), .int p1]) (kZr (kref ad (F_X9_personAt f0 g0 a0 p1))) 0 0 (fun _ => False) := by
  generalize hF : F_X9_personAt f0 g0 a0 p1 = out
  refine Met.ofW (cc := cX9_personAt) (maxL := 2) (ret := (some (.object "SpeltByFriends$Person"))) (by decide) rfl ?_
  intro p e s m args below meth c s₁ B hml hv
  obtain ⟨rfl, hP, hE⟩ := hv
  have hx := B.exec
  have hb := B.bytes
  have hr := B.returns
  have hts := atoms_spec (ws := wsX9_personAt) B.pre
  have hown : s.vm.findClass RX9 = some m.cls := findClass_of_methodNamed B.named
  have hlocks := B.notSynchronized
  have hK := hE.1
  have hiX9 : ∀ w ∈ u_ws RX9 TX9 4, w ∈ wsX9_personAt := by decide +kernel
  have hf39 := hts (.fieldLink RX9 39 "SpeltByFriends$Town" "people" "[LSpeltByFriends$Person;") (by decide +kernel)
  have hl := lv_entry ([.ref (ad 2), .int p1]) (n := 2) (Nat.le_of_ble_eq_true rfl)
  rw [lg_entry_eq]
  generalize (lg_sl ([.ref (ad 2), .int p1]) ++ List.replicate (2 - (lg_sl ([.ref (ad 2), .int p1])).length) Slot.unset).toArray = ls at hl ⊢
  have hl : lv_has ls 2 [(0, .ref (ad 2)), (1, .int p1)] := hl
  unfold F_X9_personAt at hF
  refine lv_aload_n hx hb dX9_personAt_0 rfl (lv_at hl 0 rfl) ?_
  refine lv_iload_n hx hb dX9_personAt_1 rfl (lv_at hl 1 rfl) ?_
  refine kS_b (va_runV (As := [.int p1]) (rest := []) ⟨hx, hb, hml, hown, hts⟩ (c_X9_has l hz D ad ck f0 g0 a0 p1) (cwV 1 hts gX9_personAt_X9_has rfl rfl rfl ⟨rfl, pX9_has⟩ ⟨Nat.le_of_ble_eq_true rfl, Nat.le_of_ble_eq_true rfl⟩) (kR.preV (va_recv hK hP (ci := 9) (q0 := 2) rfl rfl) hP hE) rfl rfl hl.1 rfl (lv_room (Nat.le_of_ble_eq_true rfl)) dX9_personAt_2 ⟨Nat.le_refl _, Nat.le_refl _⟩) (fun hz1 => ?_)
  refine lv_if_eq (tgt := 26) hx hb dX9_personAt_5 (by decide) (fun h1 => ?_) (fun h1 => ?_)
  · have hF := it_p h1 hF
    subst hF
    refine lv_null hx hb dX9_personAt_26 ?_
    exact W.aret hx hb hr (Or.inl ⟨_, rfl⟩) (Or.inl rfl) (fun t ht hW => ⟨rfl, ht⟩) (fun q hq => by cases hq) dX9_personAt_27
  · have hF := it_n h1 hF
    refine lv_iload_n hx hb dX9_personAt_8 rfl (lv_at hl 1 rfl) ?_
    refine lv_aload_n hx hb dX9_personAt_9 rfl (lv_at hl 0 rfl) ?_
    refine va_get (D := D) (ci := 9) (v := .ref (ad 31)) (C := RX9) (T := TX9) (N := 4) hx hb hts hiX9 hown hK hP 2 rfl rfl 2 (by decide) hf39 (fun _ h9 => h9) rfl dX9_personAt_10 ?_
    refine va_alen hx hb hK hP 31 18 rfl rfl (v := 5) rfl dX9_personAt_13 ?_
    refine lv_icmp_ge (tgt := 26) hx hb dX9_personAt_14 (by decide) (fun h2 => ?_) (fun h2 => ?_)
    · have hF := it_p h2 hF
      subst hF
      refine lv_null hx hb dX9_personAt_26 ?_
      exact W.aret hx hb hr (Or.inl ⟨_, rfl⟩) (Or.inl rfl) (fun t ht hW => ⟨rfl, ht⟩) (fun q hq => by cases hq) dX9_personAt_27
    · have hF := it_n h2 hF
      subst hF
      refine lv_aload_n hx hb dX9_personAt_17 rfl (lv_at hl 0 rfl) ?_
      refine va_get (D := D) (ci := 9) (v := .ref (ad 31)) (C := RX9) (T := TX9) (N := 4) hx hb hts hiX9 hown hK hP 2 rfl rfl 2 (by decide) hf39 (fun _ h9 => h9) rfl dX9_personAt_18 ?_
      refine lv_iload_n hx hb dX9_personAt_21 rfl (lv_at hl 1 rfl) ?_
      refine va_aldq hx hb hK hP 31 18 rfl rfl (vp_in_of2 (n := 5) (by decide) (has_nn h1) h2) dX9_personAt_22 ?_
      refine lv_goto (tgt := 27) hx hb dX9_personAt_23 (by decide) ?_
      exact W.aret hx hb hr (Or.inl ⟨_, rfl⟩) (kRf_or _) (fun t ht hW => ⟨rfl, ht⟩) (fun q hq => by cases hq) dX9_personAt_27
