/-! ===== the class, by program (tools/gen.py) ===== -/
def F_X11_letter (f0 : Nat → Int32) (g0 : Nat → Int64) (a0 : Nat → Nat → Int32) (p1 : Int32) : Option (Int32 × ST) := if p1 < 32 then some ((-102), f0, g0, a0) else if p1 ≤ 126 then (F_X5_add f0 g0 a0 p1).bind fun r3 => if r3.1 = 0 then some ((-104), r3.2.1, r3.2.2.1, r3.2.2.2) else some ((r3.2.1 4), r3.2.1, r3.2.2.1, r3.2.2.2) else some ((-102), f0, g0, a0)
set_option maxHeartbeats 4000000 in
set_option maxRecDepth 100000 in
theorem c_X11_letter (l : Launch) (hz : Nat) (D : va_G) (ad : Nat → Nat) (ck : Nat → ClassId) (f0 : Nat → Int32) (g0 : Nat → Int64) (a0 : Nat → Nat → Int32) (p1 : Int32) (out : (Int32 × ST)) (hF : F_X11_letter f0 g0 a0 p1 = some out) : Met l yX11_letter wsX11_letter ({ frames := 2, cells := 0, slots := 0, locals := 43 }) (kW hz D vwCl (tX ck) (wX ad ck f0 g0 a0) [.ref (ad 0), .int p1]) (kQ D vwCl (some (.int out.1)) (wX ad ck f0 g0 a0) (wX ad ck out.2.1 out.2.2.1 out.2.2.2)) 0 0 (kAd (wX ad ck f0 g0 a0)) := by
  refine Met.ofW (cc := cX11_letter) (maxL := 2) (ret := (some .int)) (by decide) rfl ?_
  intro p e s m args below meth c s₁ B hml hv
  obtain ⟨rfl, hP, hE, hD0⟩ := hv
  have hx := B.exec
  have hb := B.bytes
  have hr := B.returns
  have hts := atoms_spec (ws := wsX11_letter) B.pre
  have hown : s.vm.findClass RX11 = some m.cls := findClass_of_methodNamed B.named
  have hlocks := B.notSynchronized
  have hK := hE.1
  have hnA := kAd_up hD0
  have hD := kD_self hD0
  have hS : va_S (kAd (wX ad ck f0 g0 a0)) s.heap s.heap [] := va_S.rf
  have hiX11 : ∀ w ∈ u_ws RX11 TX11 10, w ∈ wsX11_letter := by decide +kernel
  have hiX5 : ∀ w ∈ u_ws RX5 TX5 2, w ∈ wsX11_letter := by decide +kernel
  have hf10 := hts (.fieldLink RX11 10 "SpeltByFriends" "page" "LSpeltByFriends$Page;") (by decide +kernel)
  have hf55 := hts (.fieldLink RX11 55 "SpeltByFriends$Page" "length" "I") (by decide +kernel)
  have hl := lv_entry ([.ref (ad 0), .int p1]) (n := 2) (Nat.le_of_ble_eq_true rfl)
  rw [lg_entry_eq]
  generalize (lg_sl ([.ref (ad 0), .int p1]) ++ List.replicate (2 - (lg_sl ([.ref (ad 0), .int p1])).length) Slot.unset).toArray = ls at hl ⊢
  have hl : lv_has ls 2 [(0, .ref (ad 0)), (1, .int p1)] := hl
  obtain ⟨r, hF, hp⟩ : ∃ r, F_X11_letter f0 g0 a0 p1 = some r ∧ r = out := ⟨out, hF, rfl⟩
  unfold F_X11_letter at hF
  refine lv_iload_n hx hb dX11_letter_0 rfl (lv_at hl 1 rfl) ?_
  refine lv_bipush (v := 32) hx hb dX11_letter_1 (by decide) ?_
  refine lv_icmp_lt (tgt := 12) hx hb dX11_letter_3 (by decide) (fun hc1 => ?_) (fun hc1 => ?_)
  · have hF := it_p hc1 hF
    refine lv_bipush (v := (-102)) hx hb dX11_letter_12 (by decide) ?_
    have hF := (Option.some.inj hF).trans hp
    subst hF
    exact W.iret hx hb hr (fun t ht hW => ⟨rfl, by rw [ht]; exact hP, hS.F ht⟩) hS.2.2 dX11_letter_14
  · have hF := it_n hc1 hF
    refine lv_iload_n hx hb dX11_letter_6 rfl (lv_at hl 1 rfl) ?_
    refine lv_bipush (v := 126) hx hb dX11_letter_7 (by decide) ?_
    refine lv_icmp_le (tgt := 15) hx hb dX11_letter_9 (by decide) (fun hc2 => ?_) (fun hc2 => ?_)
    · have hF := it_p hc2 hF
      refine lv_aload_n hx hb dX11_letter_15 rfl (lv_at hl 0 rfl) ?_
      refine va_get (D := D) (ci := 11) (v := .ref (ad 1)) (C := RX11) (T := TX11) (N := 10) hx hb hts hiX11 hown hK hP 0 rfl rfl 0 (by decide) hf10 (fun _ h9 => h9) rfl dX11_letter_16 ?_
      refine lv_iload_n hx hb dX11_letter_19 rfl (lv_at hl 1 rfl) ?_
      obtain ⟨r3, he3, hF⟩ := bd_s hF
      refine kS_w (va_runV (As := [.int p1]) (rest := []) ⟨hx, hb, hml, hown, hts⟩ (c_X5_add l hz D ad ck f0 g0 a0 p1 r3 he3) (cwV 1 hts gX11_letter_X5_add rfl rfl rfl ⟨rfl, pX5_add⟩ ⟨Nat.le_of_ble_eq_true rfl, Nat.le_of_ble_eq_true rfl⟩) (kW.preV (va_recv hK hP (ci := 5) (q0 := 1) rfl rfl) hP (hE.kept hS hnA) hD hnA) rfl rfl hl.1 rfl (lv_room (Nat.le_of_ble_eq_true rfl)) dX11_letter_20 ⟨Nat.le_refl _, Nat.le_refl _⟩) hD hS rfl (fun H locs hP hD hS => ?_)
      refine lv_if_eq (tgt := 36) hx hb dX11_letter_23 (by decide) (fun hc4 => ?_) (fun hc4 => ?_)
      · have hF := it_p hc4 hF
        refine lv_bipush (v := (-104)) hx hb dX11_letter_36 (by decide) ?_
        have hF := (Option.some.inj hF).trans hp
        subst hF
        exact W.iret hx hb hr (fun t ht hW => ⟨rfl, by rw [ht]; exact hP, hS.F ht⟩) hS.2.2 dX11_letter_38
      · have hF := it_n hc4 hF
        refine lv_aload_n hx hb dX11_letter_26 rfl (lv_at hl 0 rfl) ?_
        refine va_get (D := D) (ci := 11) (v := .ref (ad 1)) (C := RX11) (T := TX11) (N := 10) hx hb hts hiX11 hown hK hP 0 rfl rfl 0 (by decide) hf10 (fun _ h9 => h9) rfl dX11_letter_27 ?_
        refine va_get (D := D) (ci := 5) (v := .int (r3.2.1 4)) (C := RX5) (T := TX5) (N := 2) hx hb hts hiX5 hown hK hP 1 rfl rfl 1 (by decide) hf55 (fun _ h9 => h9) rfl dX11_letter_30 ?_
        refine lv_goto (tgt := 38) hx hb dX11_letter_33 (by decide) ?_
        have hF := (Option.some.inj hF).trans hp
        subst hF
        exact W.iret hx hb hr (fun t ht hW => ⟨rfl, by rw [ht]; exact hP, hS.F ht⟩) hS.2.2 dX11_letter_38
    · have hF := it_n hc2 hF
      refine lv_bipush (v := (-102)) hx hb dX11_letter_12 (by decide) ?_
      have hF := (Option.some.inj hF).trans hp
      subst hF
      exact W.iret hx hb hr (fun t ht hW => ⟨rfl, by rw [ht]; exact hP, hS.F ht⟩) hS.2.2 dX11_letter_14

def F_X11_blank (f0 : Nat → Int32) (g0 : Nat → Int64) (a0 : Nat → Nat → Int32) : Option (Int32 × ST) := some ((f0 4), (upd f0 4 0), g0, a0)
set_option maxHeartbeats 4000000 in
set_option maxRecDepth 100000 in
theorem c_X11_blank (l : Launch) (hz : Nat) (D : va_G) (ad : Nat → Nat) (ck : Nat → ClassId) (f0 : Nat → Int32) (g0 : Nat → Int64) (a0 : Nat → Nat → Int32) (out : (Int32 × ST)) (hF : F_X11_blank f0 g0 a0 = some out) : Met l yX11_blank wsX11_blank ({ frames := 0, cells := 0, slots := 0, locals := 0 }) (kW hz D vwCl (tX ck) (wX ad ck f0 g0 a0) [.ref (ad 0)]) (kQ D vwCl (some (.int out.1)) (wX ad ck f0 g0 a0) (wX ad ck out.2.1 out.2.2.1 out.2.2.2)) 0 0 (kAd (wX ad ck f0 g0 a0)) := by
  refine Met.ofW (cc := cX11_blank) (maxL := 2) (ret := (some .int)) (by decide) rfl ?_
  intro p e s m args below meth c s₁ B hml hv
  obtain ⟨rfl, hP, hE, hD0⟩ := hv
  have hx := B.exec
  have hb := B.bytes
  have hr := B.returns
  have hts := atoms_spec (ws := wsX11_blank) B.pre
  have hown : s.vm.findClass RX11 = some m.cls := findClass_of_methodNamed B.named
  have hlocks := B.notSynchronized
  have hK := hE.1
  have hnA := kAd_up hD0
  have hD := kD_self hD0
  have hS : va_S (kAd (wX ad ck f0 g0 a0)) s.heap s.heap [] := va_S.rf
  have hiX11 : ∀ w ∈ u_ws RX11 TX11 10, w ∈ wsX11_blank := by decide +kernel
  have hiX5 : ∀ w ∈ u_ws RX5 TX5 2, w ∈ wsX11_blank := by decide +kernel
  have hf10 := hts (.fieldLink RX11 10 "SpeltByFriends" "page" "LSpeltByFriends$Page;") (by decide +kernel)
  have hf55 := hts (.fieldLink RX11 55 "SpeltByFriends$Page" "length" "I") (by decide +kernel)
  have hl := lv_entry ([.ref (ad 0)]) (n := 2) (Nat.le_of_ble_eq_true rfl)
  rw [lg_entry_eq]
  generalize (lg_sl ([.ref (ad 0)]) ++ List.replicate (2 - (lg_sl ([.ref (ad 0)])).length) Slot.unset).toArray = ls at hl ⊢
  have hl : lv_has ls 2 [(0, .ref (ad 0))] := hl
  obtain ⟨r, hF, hp⟩ : ∃ r, F_X11_blank f0 g0 a0 = some r ∧ r = out := ⟨out, hF, rfl⟩
  unfold F_X11_blank at hF
  refine lv_aload_n hx hb dX11_blank_0 rfl (lv_at hl 0 rfl) ?_
  refine va_get (D := D) (ci := 11) (v := .ref (ad 1)) (C := RX11) (T := TX11) (N := 10) hx hb hts hiX11 hown hK hP 0 rfl rfl 0 (by decide) hf10 (fun _ h9 => h9) rfl dX11_blank_1 ?_
  refine va_get (D := D) (ci := 5) (v := .int (f0 4)) (C := RX5) (T := TX5) (N := 2) hx hb hts hiX5 hown hK hP 1 rfl rfl 1 (by decide) hf55 (fun _ h9 => h9) rfl dX11_blank_4 ?_
  refine lv_istore_n (lv' := [(1, .int (f0 4)), (0, .ref (ad 0))]) hx hb dX11_blank_7 rfl hl (by decide) rfl (fun ls hl => ?_)
  refine lv_aload_n hx hb dX11_blank_8 rfl (lv_at hl 1 rfl) ?_
  refine va_get (D := D) (ci := 11) (v := .ref (ad 1)) (C := RX11) (T := TX11) (N := 10) hx hb hts hiX11 hown hK hP 0 rfl rfl 0 (by decide) hf10 (fun _ h9 => h9) rfl dX11_blank_9 ?_
  refine lv_iconst (v := 0) hx hb dX11_blank_12 (by decide) ?_
  refine va_put (D := D) (ci := 5) (v := .int 0) (ty := .int) (C := RX5) (T := TX5) (N := 2) hx hb hts hiX5 tyX5 tyX5_ok nmX5 hown hK hP hD hS 1 rfl rfl 1 (by decide) hf55 (fun _ h9 => h9) rfl (tyX5_ok 1 (by decide)) rfl rfl (Nat.le_of_ble_eq_true rfl) dX11_blank_13 (fun H locs hP hD hS => ?_)
  have hP := kPe (ef_wX1_1 ad ck f0 g0 a0 0) hP
  have hD := kDe (ef_wX1_1 ad ck f0 g0 a0 0) hD
  refine lv_iload_n hx hb dX11_blank_16 rfl (lv_at hl 0 rfl) ?_
  have hF := (Option.some.inj hF).trans hp
  subst hF
  exact W.iret hx hb hr (fun t ht hW => ⟨rfl, by rw [ht]; exact hP, hS.F ht⟩) hS.2.2 dX11_blank_17

def F_X11_fault (f0 : Nat → Int32) (g0 : Nat → Int64) (a0 : Nat → Nat → Int32) : Option Int32 := (F_X5_firstFault f0 g0 a0).bind fun r1 => some r1
set_option maxHeartbeats 4000000 in
set_option maxRecDepth 100000 in
theorem c_X11_fault (l : Launch) (hz : Nat) (D : va_G) (ad : Nat → Nat) (ck : Nat → ClassId) (f0 : Nat → Int32) (g0 : Nat → Int64) (a0 : Nat → Nat → Int32) (out : Int32) (hF : F_X11_fault f0 g0 a0 = some out) : Met l yX11_fault wsX11_fault ({ frames := 7, cells := 0, slots := 0, locals := 154 }) (kR hz D vwCl (tX ck) (wX ad ck f0 g0 a0) [.ref (ad 0)]) (kZi out) 0 0 (fun _ => False) := by
  refine Met.ofW (cc := cX11_fault) (maxL := 1) (ret := (some .int)) (by decide) rfl ?_
  intro p e s m args below meth c s₁ B hml hv
  obtain ⟨rfl, hP, hE⟩ := hv
  have hx := B.exec
  have hb := B.bytes
  have hr := B.returns
  have hts := atoms_spec (ws := wsX11_fault) B.pre
  have hown : s.vm.findClass RX11 = some m.cls := findClass_of_methodNamed B.named
  have hlocks := B.notSynchronized
  have hK := hE.1
  have hiX11 : ∀ w ∈ u_ws RX11 TX11 10, w ∈ wsX11_fault := by decide +kernel
  have hf10 := hts (.fieldLink RX11 10 "SpeltByFriends" "page" "LSpeltByFriends$Page;") (by decide +kernel)
  have hl := lv_entry ([.ref (ad 0)]) (n := 1) (Nat.le_of_ble_eq_true rfl)
  rw [lg_entry_eq]
  generalize (lg_sl ([.ref (ad 0)]) ++ List.replicate (1 - (lg_sl ([.ref (ad 0)])).length) Slot.unset).toArray = ls at hl ⊢
  have hl : lv_has ls 1 [(0, .ref (ad 0))] := hl
  obtain ⟨r, hF, hp⟩ : ∃ r, F_X11_fault f0 g0 a0 = some r ∧ r = out := ⟨out, hF, rfl⟩
  unfold F_X11_fault at hF
  refine lv_aload_n hx hb dX11_fault_0 rfl (lv_at hl 0 rfl) ?_
  refine va_get (D := D) (ci := 11) (v := .ref (ad 1)) (C := RX11) (T := TX11) (N := 10) hx hb hts hiX11 hown hK hP 0 rfl rfl 0 (by decide) hf10 (fun _ h9 => h9) rfl dX11_fault_1 ?_
  obtain ⟨r1, he1, hF⟩ := bd_s hF
  refine kS_i (va_runV (As := []) (rest := []) ⟨hx, hb, hml, hown, hts⟩ (c_X5_firstFault l hz D ad ck f0 g0 a0 r1 he1) (cwV 0 hts gX11_fault_X5_firstFault rfl rfl rfl ⟨rfl, pX5_firstFault⟩ ⟨Nat.le_of_ble_eq_true rfl, Nat.le_of_ble_eq_true rfl⟩) (kR.preV (va_recv hK hP (ci := 5) (q0 := 1) rfl rfl) hP hE) rfl rfl hl.1 rfl (lv_room (Nat.le_of_ble_eq_true rfl)) dX11_fault_4 ⟨Nat.le_refl _, Nat.le_refl _⟩) ?_
  exact W.iret hx hb hr (fun t ht hW => ⟨_, rfl, (Option.some.inj hF).trans hp, ht⟩) (fun q hq => by cases hq) dX11_fault_7

def F_X11_town (f0 : Nat → Int32) (g0 : Nat → Int64) (a0 : Nat → Nat → Int32) : Option (Int32 × ST) := (F_X5_isTown f0 g0 a0).bind fun r1 => if r1 = 0 then some ((-103), f0, g0, a0) else (F_X9_settle f0 g0 a0).bind fun r4 => some (((upd (upd r4.1 4 0) 0 (((upd r4.1 4 0) 0) + (1 : Int32))) 5), (upd (upd r4.1 4 0) 0 (((upd r4.1 4 0) 0) + (1 : Int32))), r4.2.1, r4.2.2)
set_option maxHeartbeats 4000000 in
set_option maxRecDepth 100000 in
theorem c_X11_town (l : Launch) (hz : Nat) (D : va_G) (ad : Nat → Nat) (ck : Nat → ClassId) (f0 : Nat → Int32) (g0 : Nat → Int64) (a0 : Nat → Nat → Int32) (out : (Int32 × ST)) (hF : F_X11_town f0 g0 a0 = some out) : Met l yX11_town wsX11_town ({ frames := 8, cells := 0, slots := 0, locals := 174 }) (kW hz D vwCl (tX ck) (wX ad ck f0 g0 a0) [.ref (ad 0)]) (kQ D vwCl (some (.int out.1)) (wX ad ck f0 g0 a0) (wX ad ck out.2.1 out.2.2.1 out.2.2.2)) 0 0 (kAd (wX ad ck f0 g0 a0)) := by
  refine Met.ofW (cc := cX11_town) (maxL := 1) (ret := (some .int)) (by decide) rfl ?_
  intro p e s m args below meth c s₁ B hml hv
  obtain ⟨rfl, hP, hE, hD0⟩ := hv
  have hx := B.exec
  have hb := B.bytes
  have hr := B.returns
  have hts := atoms_spec (ws := wsX11_town) B.pre
  have hown : s.vm.findClass RX11 = some m.cls := findClass_of_methodNamed B.named
  have hlocks := B.notSynchronized
  have hK := hE.1
  have hnA := kAd_up hD0
  have hD := kD_self hD0
  have hS : va_S (kAd (wX ad ck f0 g0 a0)) s.heap s.heap [] := va_S.rf
  have hiX11 : ∀ w ∈ u_ws RX11 TX11 10, w ∈ wsX11_town := by decide +kernel
  have hiX5 : ∀ w ∈ u_ws RX5 TX5 2, w ∈ wsX11_town := by decide +kernel
  have hiX9 : ∀ w ∈ u_ws RX9 TX9 4, w ∈ wsX11_town := by decide +kernel
  have hf10 := hts (.fieldLink RX11 10 "SpeltByFriends" "page" "LSpeltByFriends$Page;") (by decide +kernel)
  have hf19 := hts (.fieldLink RX11 19 "SpeltByFriends" "here" "LSpeltByFriends$Town;") (by decide +kernel)
  have hf55 := hts (.fieldLink RX11 55 "SpeltByFriends$Page" "length" "I") (by decide +kernel)
  have hf71 := hts (.fieldLink RX11 71 "SpeltByFriends" "townsRead" "I") (by decide +kernel)
  have hf74 := hts (.fieldLink RX11 74 "SpeltByFriends$Town" "size" "I") (by decide +kernel)
  have hl := lv_entry ([.ref (ad 0)]) (n := 1) (Nat.le_of_ble_eq_true rfl)
  rw [lg_entry_eq]
  generalize (lg_sl ([.ref (ad 0)]) ++ List.replicate (1 - (lg_sl ([.ref (ad 0)])).length) Slot.unset).toArray = ls at hl ⊢
  have hl : lv_has ls 1 [(0, .ref (ad 0))] := hl
  obtain ⟨r, hF, hp⟩ : ∃ r, F_X11_town f0 g0 a0 = some r ∧ r = out := ⟨out, hF, rfl⟩
  unfold F_X11_town at hF
  refine lv_aload_n hx hb dX11_town_0 rfl (lv_at hl 0 rfl) ?_
  refine va_get (D := D) (ci := 11) (v := .ref (ad 1)) (C := RX11) (T := TX11) (N := 10) hx hb hts hiX11 hown hK hP 0 rfl rfl 0 (by decide) hf10 (fun _ h9 => h9) rfl dX11_town_1 ?_
  obtain ⟨r1, he1, hF⟩ := bd_s hF
  refine kS_b (va_runV (As := []) (rest := []) ⟨hx, hb, hml, hown, hts⟩ (c_X5_isTown l hz D ad ck f0 g0 a0 r1 he1) (cwV 0 hts gX11_town_X5_isTown rfl rfl rfl ⟨rfl, pX5_isTown⟩ ⟨Nat.le_of_ble_eq_true rfl, Nat.le_of_ble_eq_true rfl⟩) (kR.preV (va_recv hK hP (ci := 5) (q0 := 1) rfl rfl) hP (hE.kept hS hnA)) rfl rfl hl.1 rfl (lv_room (Nat.le_of_ble_eq_true rfl)) dX11_town_4 ⟨Nat.le_refl _, Nat.le_refl _⟩) (fun hz2 => ?_)
  refine lv_if_ne (tgt := 13) hx hb dX11_town_7 (by decide) (fun hc3 => ?_) (fun hc3 => ?_)
  · have hF := it_n hc3 hF
    refine lv_aload_n hx hb dX11_town_13 rfl (lv_at hl 0 rfl) ?_
    refine va_get (D := D) (ci := 11) (v := .ref (ad 2)) (C := RX11) (T := TX11) (N := 10) hx hb hts hiX11 hown hK hP 0 rfl rfl 1 (by decide) hf19 (fun _ h9 => h9) rfl dX11_town_14 ?_
    refine lv_aload_n hx hb dX11_town_17 rfl (lv_at hl 0 rfl) ?_
    refine va_get (D := D) (ci := 11) (v := .ref (ad 1)) (C := RX11) (T := TX11) (N := 10) hx hb hts hiX11 hown hK hP 0 rfl rfl 0 (by decide) hf10 (fun _ h9 => h9) rfl dX11_town_18 ?_
    obtain ⟨r4, he4, hF⟩ := bd_s hF
    refine kS_w (va_runV (As := [.ref (ad 1)]) (rest := []) ⟨hx, hb, hml, hown, hts⟩ (c_X9_settle l hz D ad ck f0 g0 a0 r4 he4) (cwV 1 hts gX11_town_X9_settle rfl rfl rfl ⟨rfl, pX9_settle⟩ ⟨Nat.le_of_ble_eq_true rfl, Nat.le_of_ble_eq_true rfl⟩) (kW.preV (va_recv hK hP (ci := 9) (q0 := 2) rfl rfl) hP (hE.kept hS hnA) hD hnA) rfl rfl hl.1 rfl (lv_room (Nat.le_of_ble_eq_true rfl)) dX11_town_21 ⟨Nat.le_refl _, Nat.le_refl _⟩) hD hS rfl (fun H locs hP hD hS => ?_)
    refine lv_aload_n hx hb dX11_town_24 rfl (lv_at hl 0 rfl) ?_
    refine va_get (D := D) (ci := 11) (v := .ref (ad 1)) (C := RX11) (T := TX11) (N := 10) hx hb hts hiX11 hown hK hP 0 rfl rfl 0 (by decide) hf10 (fun _ h9 => h9) rfl dX11_town_25 ?_
    refine lv_iconst (v := 0) hx hb dX11_town_28 (by decide) ?_
    refine va_put (D := D) (ci := 5) (v := .int 0) (ty := .int) (C := RX5) (T := TX5) (N := 2) hx hb hts hiX5 tyX5 tyX5_ok nmX5 hown hK hP hD hS 1 rfl rfl 1 (by decide) hf55 (fun _ h9 => h9) rfl (tyX5_ok 1 (by decide)) rfl rfl (Nat.le_of_ble_eq_true rfl) dX11_town_29 (fun H locs hP hD hS => ?_)
    have hP := kPe (ef_wX1_1 ad ck r4.1 r4.2.1 r4.2.2 0) hP
    have hD := kDe (ef_wX1_1 ad ck r4.1 r4.2.1 r4.2.2 0) hD
    refine lv_aload_n hx hb dX11_town_32 rfl (lv_at hl 0 rfl) ?_
    refine lv_dup hx hb dX11_town_33 rfl ?_
    refine va_get (D := D) (ci := 11) (v := .int ((upd r4.1 4 0) 0)) (C := RX11) (T := TX11) (N := 10) hx hb hts hiX11 hown hK hP 0 rfl rfl 6 (by decide) hf71 (fun _ h9 => h9) rfl dX11_town_34 ?_
    refine lv_iconst (v := 1) hx hb dX11_town_37 (by decide) ?_
    refine lv_iadd hx hb dX11_town_38 ?_
    refine va_put (D := D) (ci := 11) (v := .int (((upd r4.1 4 0) 0) + (1 : Int32))) (ty := .int) (C := RX11) (T := TX11) (N := 10) hx hb hts hiX11 tyX11 tyX11_ok nmX11 hown hK hP hD hS 0 rfl rfl 6 (by decide) hf71 (fun _ h9 => h9) rfl (tyX11_ok 6 (by decide)) rfl rfl (Nat.le_of_ble_eq_true rfl) dX11_town_39 (fun H locs hP hD hS => ?_)
    have hP := kPe (ef_wX0_6 ad ck (upd r4.1 4 0) r4.2.1 r4.2.2 (((upd r4.1 4 0) 0) + (1 : Int32))) hP
    have hD := kDe (ef_wX0_6 ad ck (upd r4.1 4 0) r4.2.1 r4.2.2 (((upd r4.1 4 0) 0) + (1 : Int32))) hD
    refine lv_aload_n hx hb dX11_town_42 rfl (lv_at hl 0 rfl) ?_
    refine va_get (D := D) (ci := 11) (v := .ref (ad 2)) (C := RX11) (T := TX11) (N := 10) hx hb hts hiX11 hown hK hP 0 rfl rfl 1 (by decide) hf19 (fun _ h9 => h9) rfl dX11_town_43 ?_
    refine va_get (D := D) (ci := 9) (v := .int ((upd (upd r4.1 4 0) 0 (((upd r4.1 4 0) 0) + (1 : Int32))) 5)) (C := RX9) (T := TX9) (N := 4) hx hb hts hiX9 hown hK hP 2 rfl rfl 3 (by decide) hf74 (fun _ h9 => h9) rfl dX11_town_46 ?_
    have hF := (Option.some.inj hF).trans hp
    subst hF
    exact W.iret hx hb hr (fun t ht hW => ⟨rfl, by rw [ht]; exact hP, hS.F ht⟩) hS.2.2 dX11_town_49
  · have hF := it_p hc3 hF
    refine lv_bipush (v := (-103)) hx hb dX11_town_10 (by decide) ?_
    have hF := (Option.some.inj hF).trans hp
    subst hF
    exact W.iret hx hb hr (fun t ht hW => ⟨rfl, by rw [ht]; exact hP, hS.F ht⟩) hS.2.2 dX11_town_12
