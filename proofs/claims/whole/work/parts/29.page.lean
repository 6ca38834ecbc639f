/-! ===== the class, by program (tools/gen.py) ===== -/
def F_X5_add (f0 : Nat → Int32) (g0 : Nat → Int64) (a0 : Nat → Nat → Int32) (p1 : Int32) : Option (Int32 × ST) := if (f0 4) < 21 then some (1, (upd f0 4 ((f0 4) + (1 : Int32))), g0, (us a0 13 (F_put 21 (a0 13) (f0 4) p1))) else some (0, f0, g0, a0)
set_option maxHeartbeats 4000000 in
set_option maxRecDepth 100000 in
theorem c_X5_add (l : Launch) (hz : Nat) (D : va_G) (ad : Nat → Nat) (ck : Nat → ClassId) (f0 : Nat → Int32) (g0 : Nat → Int64) (a0 : Nat → Nat → Int32) (p1 : Int32) (out : (Int32 × ST)) (hF : F_X5_add f0 g0 a0 p1 = some out) : Met l yX5_add wsX5_add ({ frames := 1, cells := 0, slots := 0, locals := 22 }) (kW hz D vwCl (tX ck) (wX ad ck f0 g0 a0) [.ref (ad 1), .int p1]) (kQ D vwCl (some (.int out.1)) (wX ad ck f0 g0 a0) (wX ad ck out.2.1 out.2.2.1 out.2.2.2)) 0 0 (kAd (wX ad ck f0 g0 a0)) := by
  refine Met.ofW (cc := cX5_add) (maxL := 2) (ret := (some .boolean)) (by decide) rfl ?_
  intro p e s m args below meth c s₁ B hml hv
  obtain ⟨rfl, hP, hE, hD0⟩ := hv
  have hx := B.exec
  have hb := B.bytes
  have hr := B.returns
  have hts := atoms_spec (ws := wsX5_add) B.pre
  have hown : s.vm.findClass RX5 = some m.cls := findClass_of_methodNamed B.named
  have hlocks := B.notSynchronized
  have hK := hE.1
  have hnA := kAd_up hD0
  have hD := kD_self hD0
  have hS : va_S (kAd (wX ad ck f0 g0 a0)) s.heap s.heap [] := va_S.rf
  have hiX5 : ∀ w ∈ u_ws RX5 TX5 2, w ∈ wsX5_add := by decide +kernel
  have hf9 := hts (.fieldLink RX5 9 "SpeltByFriends$Page" "letters" "[I") (by decide +kernel)
  have hf15 := hts (.fieldLink RX5 15 "SpeltByFriends$Page" "length" "I") (by decide +kernel)
  have hl := lv_entry ([.ref (ad 1), .int p1]) (n := 2) (Nat.le_of_ble_eq_true rfl)
  rw [lg_entry_eq]
  generalize (lg_sl ([.ref (ad 1), .int p1]) ++ List.replicate (2 - (lg_sl ([.ref (ad 1), .int p1])).length) Slot.unset).toArray = ls at hl ⊢
  have hl : lv_has ls 2 [(0, .ref (ad 1)), (1, .int p1)] := hl
  obtain ⟨r, hF, hp⟩ : ∃ r, F_X5_add f0 g0 a0 p1 = some r ∧ r = out := ⟨out, hF, rfl⟩
  unfold F_X5_add at hF
  refine lv_aload_n hx hb dX5_add_0 rfl (lv_at hl 0 rfl) ?_
  refine va_get (D := D) (ci := 5) (v := .int (f0 4)) (C := RX5) (T := TX5) (N := 2) hx hb hts hiX5 hown hK hP 1 rfl rfl 1 (by decide) hf15 (fun _ h9 => h9) rfl dX5_add_1 ?_
  refine lv_bipush (v := 21) hx hb dX5_add_4 (by decide) ?_
  refine lv_icmp_lt (tgt := 11) hx hb dX5_add_6 (by decide) (fun hc1 => ?_) (fun hc1 => ?_)
  · have hF := it_p hc1 hF
    refine lv_aload_n hx hb dX5_add_11 rfl (lv_at hl 0 rfl) ?_
    refine va_get (D := D) (ci := 5) (v := .ref (ad 13)) (C := RX5) (T := TX5) (N := 2) hx hb hts hiX5 hown hK hP 1 rfl rfl 0 (by decide) hf9 (fun _ h9 => h9) rfl dX5_add_12 ?_
    refine lv_aload_n hx hb dX5_add_15 rfl (lv_at hl 0 rfl) ?_
    refine va_get (D := D) (ci := 5) (v := .int (f0 4)) (C := RX5) (T := TX5) (N := 2) hx hb hts hiX5 hown hK hP 1 rfl rfl 1 (by decide) hf15 (fun _ h9 => h9) rfl dX5_add_16 ?_
    refine lv_iload_n hx hb dX5_add_19 rfl (lv_at hl 1 rfl) ?_
    refine kS_w (va_runSN (As := [.ref (ad 13), .int (f0 4), .int p1]) (rest := []) ⟨hx, hb, hml, hown, hts⟩ (c_X11_put l hz D (tX ck) (wX ad ck f0 g0 a0) 13 0 rfl rfl (by decide) (f0 4) p1) ⟨va_cnB 3 hts gX5_add_X11_put_n19 rfl rfl rfl (hE.2.1 _ knX5_19) (hts (.initialized RX11) (by decide +kernel)) pX11_put ⟨Nat.le_of_ble_eq_true rfl, Nat.le_of_ble_eq_true rfl⟩, hts (.static yX11_put) (by decide +kernel), trivial⟩ (kW.preS hP (hE.kept hS hnA) hD hnA) rfl rfl hl.1 rfl (lv_room (Nat.le_of_ble_eq_true rfl)) dX5_add_20 ⟨Nat.le_refl _, Nat.le_refl _⟩) hD hS (kSet_fst rfl) (fun H locs hP hD hS => ?_)
    have hP := kPe (es_wX13 ad ck f0 g0 a0 (F_put 21 (a0 13) (f0 4) p1)) hP
    have hD := kDe (es_wX13 ad ck f0 g0 a0 (F_put 21 (a0 13) (f0 4) p1)) hD
    refine lv_aload_n hx hb dX5_add_23 rfl (lv_at hl 0 rfl) ?_
    refine lv_dup hx hb dX5_add_24 rfl ?_
    refine va_get (D := D) (ci := 5) (v := .int (f0 4)) (C := RX5) (T := TX5) (N := 2) hx hb hts hiX5 hown hK hP 1 rfl rfl 1 (by decide) hf15 (fun _ h9 => h9) rfl dX5_add_25 ?_
    refine lv_iconst (v := 1) hx hb dX5_add_28 (by decide) ?_
    refine lv_iadd hx hb dX5_add_29 ?_
    refine va_put (D := D) (ci := 5) (v := .int ((f0 4) + (1 : Int32))) (ty := .int) (C := RX5) (T := TX5) (N := 2) hx hb hts hiX5 tyX5 tyX5_ok nmX5 hown hK hP hD hS 1 rfl rfl 1 (by decide) hf15 (fun _ h9 => h9) rfl (tyX5_ok 1 (by decide)) rfl rfl (Nat.le_of_ble_eq_true rfl) dX5_add_30 (fun H locs hP hD hS => ?_)
    have hP := kPe (ef_wX1_1 ad ck f0 g0 (us a0 13 (F_put 21 (a0 13) (f0 4) p1)) ((f0 4) + (1 : Int32))) hP
    have hD := kDe (ef_wX1_1 ad ck f0 g0 (us a0 13 (F_put 21 (a0 13) (f0 4) p1)) ((f0 4) + (1 : Int32))) hD
    refine lv_iconst (v := 1) hx hb dX5_add_33 (by decide) ?_
    have hF := (Option.some.inj hF).trans hp
    subst hF
    exact W.zret hx hb hr rfl (fun t ht hW => ⟨rfl, by rw [ht]; exact hP, hS.F ht⟩) hS.2.2 dX5_add_34
  · have hF := it_n hc1 hF
    refine lv_iconst (v := 0) hx hb dX5_add_9 (by decide) ?_
    have hF := (Option.some.inj hF).trans hp
    subst hF
    exact W.zret hx hb hr rfl (fun t ht hW => ⟨rfl, by rw [ht]; exact hP, hS.F ht⟩) hS.2.2 dX5_add_10

def F_X5_isWhole (f0 : Nat → Int32) (g0 : Nat → Int64) (a0 : Nat → Nat → Int32) : Int32 := if (f0 4) < 7 then 0 else if 19 < (f0 4) then 0 else if ((f0 4) &&& (3 : Int32)) = 3 then 1 else 0
set_option maxHeartbeats 4000000 in
set_option maxRecDepth 100000 in
theorem c_X5_isWhole (l : Launch) (hz : Nat) (D : va_G) (ad : Nat → Nat) (ck : Nat → ClassId) (f0 : Nat → Int32) (g0 : Nat → Int64) (a0 : Nat → Nat → Int32) : Met l yX5_isWhole wsX5_isWhole ({ frames := 0, cells := 0, slots := 0, locals := 0 }) (kR hz D vwCl (tX ck) (wX ad ck f0 g0 a0) [.ref (ad 1)]) (kZb (F_X5_isWhole f0 g0 a0)) 0 0 (fun _ => False) := by
  generalize hF : F_X5_isWhole f0 g0 a0 = out
  refine Met.ofW (cc := cX5_isWhole) (maxL := 1) (ret := (some .boolean)) (by decide) rfl ?_
  intro p e s m args below meth c s₁ B hml hv
  obtain ⟨rfl, hP, hE⟩ := hv
  have hx := B.exec
  have hb := B.bytes
  have hr := B.returns
  have hts := atoms_spec (ws := wsX5_isWhole) B.pre
  have hown : s.vm.findClass RX5 = some m.cls := findClass_of_methodNamed B.named
  have hlocks := B.notSynchronized
  have hK := hE.1
  have hiX5 : ∀ w ∈ u_ws RX5 TX5 2, w ∈ wsX5_isWhole := by decide +kernel
  have hf15 := hts (.fieldLink RX5 15 "SpeltByFriends$Page" "length" "I") (by decide +kernel)
  have hl := lv_entry ([.ref (ad 1)]) (n := 1) (Nat.le_of_ble_eq_true rfl)
  rw [lg_entry_eq]
  generalize (lg_sl ([.ref (ad 1)]) ++ List.replicate (1 - (lg_sl ([.ref (ad 1)])).length) Slot.unset).toArray = ls at hl ⊢
  have hl : lv_has ls 1 [(0, .ref (ad 1))] := hl
  obtain ⟨r, hF, hp⟩ : ∃ r, F_X5_isWhole f0 g0 a0 = r ∧ r = out := ⟨out, hF, rfl⟩
  unfold F_X5_isWhole at hF
  refine lv_aload_n hx hb dX5_isWhole_0 rfl (lv_at hl 0 rfl) ?_
  refine va_get (D := D) (ci := 5) (v := .int (f0 4)) (C := RX5) (T := TX5) (N := 2) hx hb hts hiX5 hown hK hP 1 rfl rfl 1 (by decide) hf15 (fun _ h9 => h9) rfl dX5_isWhole_1 ?_
  refine lv_bipush (v := 7) hx hb dX5_isWhole_4 (by decide) ?_
  refine lv_icmp_lt (tgt := 32) hx hb dX5_isWhole_6 (by decide) (fun hc1 => ?_) (fun hc1 => ?_)
  · have hF := it_p hc1 hF
    refine lv_iconst (v := 0) hx hb dX5_isWhole_32 (by decide) ?_
    have hv := hF.trans hp
    exact W.zret hx hb hr rfl (fun t ht hW => ⟨_, rfl, ⟨hv, by rw [← hv]; exact rfl⟩, ht⟩) (fun q hq => by cases hq) dX5_isWhole_33
  · have hF := it_n hc1 hF
    refine lv_aload_n hx hb dX5_isWhole_9 rfl (lv_at hl 0 rfl) ?_
    refine va_get (D := D) (ci := 5) (v := .int (f0 4)) (C := RX5) (T := TX5) (N := 2) hx hb hts hiX5 hown hK hP 1 rfl rfl 1 (by decide) hf15 (fun _ h9 => h9) rfl dX5_isWhole_10 ?_
    refine lv_bipush (v := 19) hx hb dX5_isWhole_13 (by decide) ?_
    refine lv_icmp_gt (tgt := 32) hx hb dX5_isWhole_15 (by decide) (fun hc2 => ?_) (fun hc2 => ?_)
    · have hF := it_p hc2 hF
      refine lv_iconst (v := 0) hx hb dX5_isWhole_32 (by decide) ?_
      have hv := hF.trans hp
      exact W.zret hx hb hr rfl (fun t ht hW => ⟨_, rfl, ⟨hv, by rw [← hv]; exact rfl⟩, ht⟩) (fun q hq => by cases hq) dX5_isWhole_33
    · have hF := it_n hc2 hF
      refine lv_aload_n hx hb dX5_isWhole_18 rfl (lv_at hl 0 rfl) ?_
      refine va_get (D := D) (ci := 5) (v := .int (f0 4)) (C := RX5) (T := TX5) (N := 2) hx hb hts hiX5 hown hK hP 1 rfl rfl 1 (by decide) hf15 (fun _ h9 => h9) rfl dX5_isWhole_19 ?_
      refine lv_iconst (v := 3) hx hb dX5_isWhole_22 (by decide) ?_
      refine lv_iand hx hb dX5_isWhole_23 ?_
      refine lv_iconst (v := 3) hx hb dX5_isWhole_24 (by decide) ?_
      refine lv_icmp_ne (tgt := 32) hx hb dX5_isWhole_25 (by decide) (fun hc3 => ?_) (fun hc3 => ?_)
      · have hF := it_n hc3 hF
        refine lv_iconst (v := 0) hx hb dX5_isWhole_32 (by decide) ?_
        have hv := hF.trans hp
        exact W.zret hx hb hr rfl (fun t ht hW => ⟨_, rfl, ⟨hv, by rw [← hv]; exact rfl⟩, ht⟩) (fun q hq => by cases hq) dX5_isWhole_33
      · have hF := it_p hc3 hF
        refine lv_iconst (v := 1) hx hb dX5_isWhole_28 (by decide) ?_
        refine lv_goto (tgt := 33) hx hb dX5_isWhole_29 (by decide) ?_
        have hv := hF.trans hp
        exact W.zret hx hb hr rfl (fun t ht hW => ⟨_, rfl, ⟨hv, by rw [← hv]; exact rfl⟩, ht⟩) (fun q hq => by cases hq) dX5_isWhole_33

def F_X5_people (f0 : Nat → Int32) (g0 : Nat → Int64) (a0 : Nat → Nat → Int32) : Int32 := (((f0 4) + (1 : Int32)) / 4)
set_option maxHeartbeats 4000000 in
set_option maxRecDepth 100000 in
theorem c_X5_people (l : Launch) (hz : Nat) (D : va_G) (ad : Nat → Nat) (ck : Nat → ClassId) (f0 : Nat → Int32) (g0 : Nat → Int64) (a0 : Nat → Nat → Int32) : Met l yX5_people wsX5_people ({ frames := 0, cells := 0, slots := 0, locals := 0 }) (kR hz D vwCl (tX ck) (wX ad ck f0 g0 a0) [.ref (ad 1)]) (kZi (F_X5_people f0 g0 a0)) 0 0 (fun _ => False) := by
  generalize hF : F_X5_people f0 g0 a0 = out
  refine Met.ofW (cc := cX5_people) (maxL := 1) (ret := (some .int)) (by decide) rfl ?_
  intro p e s m args below meth c s₁ B hml hv
  obtain ⟨rfl, hP, hE⟩ := hv
  have hx := B.exec
  have hb := B.bytes
  have hr := B.returns
  have hts := atoms_spec (ws := wsX5_people) B.pre
  have hown : s.vm.findClass RX5 = some m.cls := findClass_of_methodNamed B.named
  have hlocks := B.notSynchronized
  have hK := hE.1
  have hiX5 : ∀ w ∈ u_ws RX5 TX5 2, w ∈ wsX5_people := by decide +kernel
  have hf15 := hts (.fieldLink RX5 15 "SpeltByFriends$Page" "length" "I") (by decide +kernel)
  have hl := lv_entry ([.ref (ad 1)]) (n := 1) (Nat.le_of_ble_eq_true rfl)
  rw [lg_entry_eq]
  generalize (lg_sl ([.ref (ad 1)]) ++ List.replicate (1 - (lg_sl ([.ref (ad 1)])).length) Slot.unset).toArray = ls at hl ⊢
  have hl : lv_has ls 1 [(0, .ref (ad 1))] := hl
  obtain ⟨r, hF, hp⟩ : ∃ r, F_X5_people f0 g0 a0 = r ∧ r = out := ⟨out, hF, rfl⟩
  unfold F_X5_people at hF
  refine lv_aload_n hx hb dX5_people_0 rfl (lv_at hl 0 rfl) ?_
  refine va_get (D := D) (ci := 5) (v := .int (f0 4)) (C := RX5) (T := TX5) (N := 2) hx hb hts hiX5 hown hK hP 1 rfl rfl 1 (by decide) hf15 (fun _ h9 => h9) rfl dX5_people_1 ?_
  refine lv_iconst (v := 1) hx hb dX5_people_4 (by decide) ?_
  refine lv_iadd hx hb dX5_people_5 ?_
  refine lv_iconst (v := 4) hx hb dX5_people_6 (by decide) ?_
  refine lv_idiv hx hb dX5_people_7 (by decide) ?_
  exact W.iret hx hb hr (fun t ht hW => ⟨_, rfl, hF.trans hp, ht⟩) (fun q hq => by cases hq) dX5_people_8

def F_X5_digitAt (f0 : Nat → Int32) (g0 : Nat → Int64) (a0 : Nat → Nat → Int32) (p1 : Int32) : Int32 := ((F_at 21 (a0 13) p1) - (48 : Int32))
set_option maxHeartbeats 4000000 in
set_option maxRecDepth 100000 in
theorem c_X5_digitAt (l : Launch) (hz : Nat) (D : va_G) (ad : Nat → Nat) (ck : Nat → ClassId) (f0 : Nat → Int32) (g0 : Nat → Int64) (a0 : Nat → Nat → Int32) (p1 : Int32) : Met l yX5_digitAt wsX5_digitAt ({ frames := 1, cells := 0, slots := 0, locals := 21 }) (kR hz D vwCl (tX ck) (wX ad ck f0 g0 a0) [.ref (ad 1), .int p1]) (kZi (F_X5_digitAt f0 g0 a0 p1)) 0 0 (fun _ => False) := by
  generalize hF : F_X5_digitAt f0 g0 a0 p1 = out
  refine Met.ofW (cc := cX5_digitAt) (maxL := 2) (ret := (some .int)) (by decide) rfl ?_
  intro p e s m args below meth c s₁ B hml hv
  obtain ⟨rfl, hP, hE⟩ := hv
  have hx := B.exec
  have hb := B.bytes
  have hr := B.returns
  have hts := atoms_spec (ws := wsX5_digitAt) B.pre
  have hown : s.vm.findClass RX5 = some m.cls := findClass_of_methodNamed B.named
  have hlocks := B.notSynchronized
  have hK := hE.1
  have hiX5 : ∀ w ∈ u_ws RX5 TX5 2, w ∈ wsX5_digitAt := by decide +kernel
  have hf9 := hts (.fieldLink RX5 9 "SpeltByFriends$Page" "letters" "[I") (by decide +kernel)
  have hl := lv_entry ([.ref (ad 1), .int p1]) (n := 2) (Nat.le_of_ble_eq_true rfl)
  rw [lg_entry_eq]
  generalize (lg_sl ([.ref (ad 1), .int p1]) ++ List.replicate (2 - (lg_sl ([.ref (ad 1), .int p1])).length) Slot.unset).toArray = ls at hl ⊢
  have hl : lv_has ls 2 [(0, .ref (ad 1)), (1, .int p1)] := hl
  obtain ⟨r, hF, hp⟩ : ∃ r, F_X5_digitAt f0 g0 a0 p1 = r ∧ r = out := ⟨out, hF, rfl⟩
  unfold F_X5_digitAt at hF
  refine lv_aload_n hx hb dX5_digitAt_0 rfl (lv_at hl 0 rfl) ?_
  refine va_get (D := D) (ci := 5) (v := .ref (ad 13)) (C := RX5) (T := TX5) (N := 2) hx hb hts hiX5 hown hK hP 1 rfl rfl 0 (by decide) hf9 (fun _ h9 => h9) rfl dX5_digitAt_1 ?_
  refine lv_iload_n hx hb dX5_digitAt_4 rfl (lv_at hl 1 rfl) ?_
  refine kS_i (va_runSN (As := [.ref (ad 13), .int p1]) (rest := []) ⟨hx, hb, hml, hown, hts⟩ (c_X11_at l hz D (tX ck) (wX ad ck f0 g0 a0) 13 0 rfl rfl (by decide) p1) ⟨va_cnB 2 hts gX5_digitAt_X11_at_n33 rfl rfl rfl (hE.2.1 _ knX5_33) (hts (.initialized RX11) (by decide +kernel)) pX11_at ⟨Nat.le_of_ble_eq_true rfl, Nat.le_of_ble_eq_true rfl⟩, hts (.static yX11_at) (by decide +kernel), trivial⟩ (kR.preS hP hE) rfl rfl hl.1 rfl (lv_room (Nat.le_of_ble_eq_true rfl)) dX5_digitAt_5 ⟨Nat.le_refl _, Nat.le_refl _⟩) ?_
  refine lv_bipush (v := 48) hx hb dX5_digitAt_8 (by decide) ?_
  refine lv_isub hx hb dX5_digitAt_10 ?_
  exact W.iret hx hb hr (fun t ht hW => ⟨_, rfl, hF.trans hp, ht⟩) (fun q hq => by cases hq) dX5_digitAt_11
