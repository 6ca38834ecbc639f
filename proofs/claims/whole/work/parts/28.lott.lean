/-! ===== the class, by program (tools/gen.py) ===== -/
def F_X4_draw (f0 : Nat → Int32) (g0 : Nat → Int64) (a0 : Nat → Nat → Int32) (p1 : Int32) : Option (Int32 × ST) := if p1 ≤ 0 then some (0, (upd f0 18 (((((1103515245 : Int64) * ((f0 18).toInt64)) + (12345 : Int64)) &&& (2147483647 : Int64)).toInt32)), g0, a0) else gd (nzB p1) (some (((((upd f0 18 (((((1103515245 : Int64) * ((f0 18).toInt64)) + (12345 : Int64)) &&& (2147483647 : Int64)).toInt32)) 18) >>> ((16 : Int32) &&& 31)) - (((upd f0 18 (((((1103515245 : Int64) * ((f0 18).toInt64)) + (12345 : Int64)) &&& (2147483647 : Int64)).toInt32)) 18) >>> ((16 : Int32) &&& 31)) / p1 * p1), (upd f0 18 (((((1103515245 : Int64) * ((f0 18).toInt64)) + (12345 : Int64)) &&& (2147483647 : Int64)).toInt32)), g0, a0))
set_option maxHeartbeats 4000000 in
set_option maxRecDepth 100000 in
theorem c_X4_draw (l : Launch) (hz : Nat) (D : va_G) (ad : Nat → Nat) (ck : Nat → ClassId) (f0 : Nat → Int32) (g0 : Nat → Int64) (a0 : Nat → Nat → Int32) (p1 : Int32) (out : (Int32 × ST)) (hF : F_X4_draw f0 g0 a0 p1 = some out) : Met l yX4_draw wsX4_draw ({ frames := 0, cells := 0, slots := 0, locals := 0 }) (kW hz D vwCl (tX ck) (wX ad ck f0 g0 a0) [.ref (ad 7), .int p1]) (kQ D vwCl (some (.int out.1)) (wX ad ck f0 g0 a0) (wX ad ck out.2.1 out.2.2.1 out.2.2.2)) 0 0 (kAd (wX ad ck f0 g0 a0)) := by
  refine Met.ofW (cc := cX4_draw) (maxL := 2) (ret := (some .int)) (by decide) rfl ?_
  intro p e s m args below meth c s₁ B hml hv
  obtain ⟨rfl, hP, hE, hD0⟩ := hv
  have hx := B.exec
  have hb := B.bytes
  have hr := B.returns
  have hts := atoms_spec (ws := wsX4_draw) B.pre
  have hown : s.vm.findClass RX4 = some m.cls := findClass_of_methodNamed B.named
  have hlocks := B.notSynchronized
  have hK := hE.1
  have hnA := kAd_up hD0
  have hD := kD_self hD0
  have hS : va_S (kAd (wX ad ck f0 g0 a0)) s.heap s.heap [] := va_S.rf
  have hiX4 : ∀ w ∈ u_ws RX4 TX4 3, w ∈ wsX4_draw := by decide +kernel
  have hf9 := hts (.fieldLink RX4 9 "SpeltByFriends$Lottery" "seed" "I") (by decide +kernel)
  have hl := lv_entry ([.ref (ad 7), .int p1]) (n := 2) (Nat.le_of_ble_eq_true rfl)
  rw [lg_entry_eq]
  generalize (lg_sl ([.ref (ad 7), .int p1]) ++ List.replicate (2 - (lg_sl ([.ref (ad 7), .int p1])).length) Slot.unset).toArray = ls at hl ⊢
  have hl : lv_has ls 2 [(0, .ref (ad 7)), (1, .int p1)] := hl
  obtain ⟨r, hF, hp⟩ : ∃ r, F_X4_draw f0 g0 a0 p1 = some r ∧ r = out := ⟨out, hF, rfl⟩
  unfold F_X4_draw at hF
  refine lv_aload_n hx hb dX4_draw_0 rfl (lv_at hl 0 rfl) ?_
  refine lv_ldc2 (v := 1103515245) hx hb hown (hts (.constantLong RX4 46 (1103515245)) (by decide +kernel)) dX4_draw_1 ?_
  refine lv_aload_n hx hb dX4_draw_4 rfl (lv_at hl 0 rfl) ?_
  refine va_get (D := D) (ci := 4) (v := .int (f0 18)) (C := RX4) (T := TX4) (N := 3) hx hb hts hiX4 hown hK hP 7 rfl rfl 0 (by decide) hf9 (fun _ h9 => h9) rfl dX4_draw_5 ?_
  refine lv_i2l (v := (f0 18).toInt64) hx hb dX4_draw_8 rfl ?_
  refine lv_lmul hx hb dX4_draw_9 ?_
  refine lv_ldc2 (v := 12345) hx hb hown (hts (.constantLong RX4 48 (12345)) (by decide +kernel)) dX4_draw_10 ?_
  refine lv_ladd hx hb dX4_draw_13 ?_
  refine lv_ldc2 (v := 2147483647) hx hb hown (hts (.constantLong RX4 50 (2147483647)) (by decide +kernel)) dX4_draw_14 ?_
  refine lv_land hx hb dX4_draw_17 ?_
  refine lv_l2i (v := ((((1103515245 : Int64) * ((f0 18).toInt64)) + (12345 : Int64)) &&& (2147483647 : Int64)).toInt32) hx hb dX4_draw_18 rfl ?_
  refine va_put (D := D) (ci := 4) (v := .int (((((1103515245 : Int64) * ((f0 18).toInt64)) + (12345 : Int64)) &&& (2147483647 : Int64)).toInt32)) (ty := .int) (C := RX4) (T := TX4) (N := 3) hx hb hts hiX4 tyX4 tyX4_ok nmX4 hown hK hP hD hS 7 rfl rfl 0 (by decide) hf9 (fun _ h9 => h9) rfl (tyX4_ok 0 (by decide)) rfl rfl (Nat.le_of_ble_eq_true rfl) dX4_draw_19 (fun H locs hP hD hS => ?_)
  have hP := kPe (ef_wX7_0 ad ck f0 g0 a0 (((((1103515245 : Int64) * ((f0 18).toInt64)) + (12345 : Int64)) &&& (2147483647 : Int64)).toInt32)) hP
  have hD := kDe (ef_wX7_0 ad ck f0 g0 a0 (((((1103515245 : Int64) * ((f0 18).toInt64)) + (12345 : Int64)) &&& (2147483647 : Int64)).toInt32)) hD
  refine lv_iload_n hx hb dX4_draw_22 rfl (lv_at hl 1 rfl) ?_
  refine lv_if_le (tgt := 38) hx hb dX4_draw_23 (by decide) (fun hc1 => ?_) (fun hc1 => ?_)
  · have hF := it_p hc1 hF
    refine lv_iconst (v := 0) hx hb dX4_draw_38 (by decide) ?_
    have hF := (Option.some.inj hF).trans hp
    subst hF
    exact W.iret hx hb hr (fun t ht hW => ⟨rfl, by rw [ht]; exact hP, hS.F ht⟩) hS.2.2 dX4_draw_39
  · have hF := it_n hc1 hF
    refine lv_aload_n hx hb dX4_draw_26 rfl (lv_at hl 0 rfl) ?_
    refine va_get (D := D) (ci := 4) (v := .int ((upd f0 18 (((((1103515245 : Int64) * ((f0 18).toInt64)) + (12345 : Int64)) &&& (2147483647 : Int64)).toInt32)) 18)) (C := RX4) (T := TX4) (N := 3) hx hb hts hiX4 hown hK hP 7 rfl rfl 0 (by decide) hf9 (fun _ h9 => h9) rfl dX4_draw_27 ?_
    refine lv_bipush (v := 16) hx hb dX4_draw_30 (by decide) ?_
    refine lv_ishr hx hb dX4_draw_32 ?_
    refine lv_iload_n hx hb dX4_draw_33 rfl (lv_at hl 1 rfl) ?_
    obtain ⟨hg2, hF⟩ := gd_s hF
    refine lv_irem hx hb dX4_draw_34 (nzB_n hg2) ?_
    refine lv_goto (tgt := 39) hx hb dX4_draw_35 (by decide) ?_
    have hF := (Option.some.inj hF).trans hp
    subst hF
    exact W.iret hx hb hr (fun t ht hW => ⟨rfl, by rw [ht]; exact hP, hS.F ht⟩) hS.2.2 dX4_draw_39

def B_X4_play_22 (f22 : Nat → Int32) (g22 : Nat → Int64) (a22 : Nat → Nat → Int32) (x2_22 : Int32) (x4_22 : Int32) (x5_22 : Int32) : Option ((Int32 × Int32 × ST) ⊕ ST) := if x2_22 ≤ x5_22 then Option.map Sum.inr (some (f22, g22, a22)) else (F_X4_draw f22 g22 a22 (f22 5)).bind fun r2 => (F_X4_draw r2.2.1 r2.2.2.1 r2.2.2.2 4).bind fun r3 => (F_X9_howManyWritten r3.2.1 r3.2.2.1 r3.2.2.2 (F_X11_withRoom x4_22 r2.1 r3.1)).bind fun r4 => some (.inl ((F_X11_withRoom x4_22 r2.1 r3.1), (x5_22 + 1), (upd (upd r3.2.1 20 r4) 19 (((upd r3.2.1 20 r4) 19) + ((upd r3.2.1 20 r4) 20))), r3.2.2.1, r3.2.2.2))
def N_X4_play_22 (f22 : Nat → Int32) (g22 : Nat → Int64) (a22 : Nat → Nat → Int32) (x2_22 : Int32) (x4_22 : Int32) (x5_22 : Int32) : Option ST := lpN (fun q22 : (Int32 × Int32 × ST) => B_X4_play_22 q22.2.2.1 q22.2.2.2.1 q22.2.2.2.2 x2_22 q22.1 q22.2.1) kFu (x4_22, x5_22, f22, g22, a22)
def F_X4_play (f0 : Nat → Int32) (g0 : Nat → Int64) (a0 : Nat → Nat → Int32) (p2 : Int32) (p3 : Int32) : Option ST := N_X4_play_22 (upd (upd f0 18 p3) 19 0) g0 a0 p2 ((upd (upd f0 18 p3) 19 0) 6) 0
set_option maxHeartbeats 4000000 in
set_option maxRecDepth 100000 in
theorem c_X4_play (l : Launch) (hz : Nat) (D : va_G) (ad : Nat → Nat) (ck : Nat → ClassId) (f0 : Nat → Int32) (g0 : Nat → Int64) (a0 : Nat → Nat → Int32) (p2 : Int32) (p3 : Int32) (out : ST) (hF : F_X4_play f0 g0 a0 p2 p3 = some out) : Met l yX4_play wsX4_play ({ frames := 5, cells := 0, slots := 0, locals := 117 }) (kW hz D vwCl (tX ck) (wX ad ck f0 g0 a0) [.ref (ad 7), .ref (ad 2), .int p2, .int p3]) (kQ D vwCl none (wX ad ck f0 g0 a0) (wX ad ck out.1 out.2.1 out.2.2)) 0 0 (kAd (wX ad ck f0 g0 a0)) := by
  refine Met.ofW (cc := cX4_play) (maxL := 7) (ret := none) (by decide) rfl ?_
  intro p e s m args below meth c s₁ B hml hv
  obtain ⟨rfl, hP, hE, hD0⟩ := hv
  have hx := B.exec
  have hb := B.bytes
  have hr := B.returns
  have hts := atoms_spec (ws := wsX4_play) B.pre
  have hown : s.vm.findClass RX4 = some m.cls := findClass_of_methodNamed B.named
  have hlocks := B.notSynchronized
  have hK := hE.1
  have hnA := kAd_up hD0
  have hD := kD_self hD0
  have hS : va_S (kAd (wX ad ck f0 g0 a0)) s.heap s.heap [] := va_S.rf
  have hiX3 : ∀ w ∈ u_ws RX3 TX3 10, w ∈ wsX4_play := by decide +kernel
  have hiX4 : ∀ w ∈ u_ws RX4 TX4 3, w ∈ wsX4_play := by decide +kernel
  have hiX9 : ∀ w ∈ u_ws RX9 TX9 4, w ∈ wsX4_play := by decide +kernel
  have hf9 := hts (.fieldLink RX4 9 "SpeltByFriends$Lottery" "seed" "I") (by decide +kernel)
  have hf15 := hts (.fieldLink RX4 15 "SpeltByFriends$Lottery" "together" "I") (by decide +kernel)
  have hf18 := hts (.fieldLink RX4 18 "SpeltByFriends$Town" "ledger" "LSpeltByFriends$Ledger;") (by decide +kernel)
  have hf24 := hts (.fieldLink RX4 24 "SpeltByFriends$Ledger" "rooms" "I") (by decide +kernel)
  have hf29 := hts (.fieldLink RX4 29 "SpeltByFriends$Town" "size" "I") (by decide +kernel)
  have hf43 := hts (.fieldLink RX4 43 "SpeltByFriends$Lottery" "inTheEnd" "I") (by decide +kernel)
  have hN_22 : ∀ (x2_22 : Int32) (n22 : Nat) (f22 : Nat → Int32) (g22 : Nat → Int64) (a22 : Nat → Nat → Int32) (H : Heap) (locs : List Loc) (x4_22 : Int32) (x5_22 : Int32) (ls : Array Slot), va_P D vwCl (wX ad ck f22 g22 a22) H → va_D (kAd (wX ad ck f0 g0 a0)) (wX ad ck f22 g22 a22) → va_S (kAd (wX ad ck f0 g0 a0)) s.heap H locs → lv_has ls 7 [(0, .ref (ad 7)), (1, .ref (ad 2)), (2, .int x2_22), (4, .int x4_22), (5, .int x5_22)] → ∀ r : ST, lpN (fun q22 : (Int32 × Int32 × ST) => B_X4_play_22 q22.2.2.1 q22.2.2.2.1 q22.2.2.2.2 x2_22 q22.1 q22.2.1) n22 (x4_22, x5_22, f22, g22, a22) = some r → (fun r => r = out) r → W p l e (headSpec wsX4_play ({ frames := 5, cells := 0, slots := 0, locals := 117 })).room s m [.ref (ad 7), .ref (ad 2), .int p2, .int p3].toArray below meth c H locs 0 0 (MQ below (kQ D vwCl none (wX ad ck f0 g0 a0) (wX ad ck out.1 out.2.1 out.2.2)) [.ref (ad 7), .ref (ad 2), .int p2, .int p3].toArray s 0 0 (kAd (wX ad ck f0 g0 a0))) (F0 m 22 ls []) := by
    intro x2_22 n22
    induction n22 with
    | zero => intro f22 g22 a22 H locs x4_22 x5_22 ls hP hD hS hl r hF hp; exact (lp_z hF).elim
    | succ n22 ih22 =>
      intro f22 g22 a22 H locs x4_22 x5_22 ls hP hD hS hl r hF hp
      obtain ⟨rs, hF, hp⟩ := lpN_K (P := (fun r => r = out)) hF hp
      unfold B_X4_play_22 at hF
      refine lv_iload hx hb dX4_play_22 (lv_at hl 4 rfl) ?_
      refine lv_iload_n hx hb dX4_play_24 rfl (lv_at hl 2 rfl) ?_
      refine lv_icmp_ge (tgt := 81) hx hb dX4_play_25 (by decide) (fun hc1 => ?_) (fun hc1 => ?_)
      · have hF := it_p hc1 hF
        obtain ⟨r, hF1, hr0⟩ := mp_s hF
        clear hF
        subst hr0
        have hF := hF1
        clear hF1
        have hp : (fun r => r = out) r := hp
        have hF := (Option.some.inj hF).trans hp
        subst hF
        exact W.vret hx hb hr (fun t ht hW => ⟨rfl, by rw [ht]; exact hP, hS.F ht⟩) hS.2.2 dX4_play_81
      · have hF := it_n hc1 hF
        refine lv_aload_n hx hb dX4_play_28 rfl (lv_at hl 0 rfl) ?_
        refine lv_aload_n hx hb dX4_play_29 rfl (lv_at hl 1 rfl) ?_
        refine va_get (D := D) (ci := 9) (v := .int (f22 5)) (C := RX9) (T := TX9) (N := 4) hx hb hts hiX9 hown hK hP 2 rfl rfl 3 (by decide) hf29 (fun _ h9 => h9) rfl dX4_play_30 ?_
        obtain ⟨r2, he2, hF⟩ := bd_s hF
        refine kS_w (va_runV (As := [.int (f22 5)]) (rest := []) ⟨hx, hb, hml, hown, hts⟩ (c_X4_draw l hz D ad ck f22 g22 a22 (f22 5) r2 he2) (cwV 1 hts gX4_play_X4_draw rfl rfl rfl ⟨rfl, pX4_draw⟩ ⟨Nat.le_of_ble_eq_true rfl, Nat.le_of_ble_eq_true rfl⟩) (kW.preV (va_recv hK hP (ci := 4) (q0 := 7) rfl rfl) hP (hE.kept hS hnA) hD hnA) rfl rfl hl.1 rfl (lv_room (Nat.le_of_ble_eq_true rfl)) dX4_play_33 ⟨Nat.le_refl _, Nat.le_refl _⟩) hD hS rfl (fun H locs hP hD hS => ?_)
        refine lv_istore (lv' := [(6, .int r2.1), (0, .ref (ad 7)), (1, .ref (ad 2)), (2, .int x2_22), (4, .int x4_22), (5, .int x5_22)]) hx hb dX4_play_36 hl (by decide) rfl (fun ls hl => ?_)
        refine lv_iload hx hb dX4_play_38 (lv_at hl 4 rfl) ?_
        refine lv_iload hx hb dX4_play_40 (lv_at hl 0 rfl) ?_
        refine lv_aload_n hx hb dX4_play_42 rfl (lv_at hl 1 rfl) ?_
        refine lv_iconst (v := 4) hx hb dX4_play_43 (by decide) ?_
        obtain ⟨r3, he3, hF⟩ := bd_s hF
        refine kS_w (va_runV (As := [.int 4]) (rest := [.int r2.1, .int x4_22]) ⟨hx, hb, hml, hown, hts⟩ (c_X4_draw l hz D ad ck r2.2.1 r2.2.2.1 r2.2.2.2 4 r3 he3) (cwV 1 hts gX4_play_X4_draw rfl rfl rfl ⟨rfl, pX4_draw⟩ ⟨Nat.le_of_ble_eq_true rfl, Nat.le_of_ble_eq_true rfl⟩) (kW.preV (va_recv hK hP (ci := 4) (q0 := 7) rfl rfl) hP (hE.kept hS hnA) hD hnA) rfl rfl hl.1 rfl (lv_room (Nat.le_of_ble_eq_true rfl)) dX4_play_44 ⟨Nat.le_refl _, Nat.le_refl _⟩) hD hS rfl (fun H locs hP hD hS => ?_)
        refine kS_i (va_runSN (As := [.int x4_22, .int r2.1, .int r3.1]) (rest := []) ⟨hx, hb, hml, hown, hts⟩ (c_X11_withRoom l hz D (tX ck) x4_22 r2.1 r3.1) ⟨va_cnB 3 hts gX4_play_X11_withRoom_n36 rfl rfl rfl (hE.2.1 _ knX4_36) (hts (.initialized RX11) (by decide +kernel)) pX11_withRoom ⟨Nat.le_of_ble_eq_true rfl, Nat.le_of_ble_eq_true rfl⟩, hts (.static yX11_withRoom) (by decide +kernel), trivial⟩ (kR.preS kP_nil (hE.kept hS hnA)) rfl rfl hl.1 rfl (lv_room (Nat.le_of_ble_eq_true rfl)) dX4_play_47 ⟨Nat.le_refl _, Nat.le_refl _⟩) ?_
        refine lv_istore (lv' := [(4, .int (F_X11_withRoom x4_22 r2.1 r3.1)), (6, .int r2.1), (0, .ref (ad 7)), (1, .ref (ad 2)), (2, .int x2_22), (5, .int x5_22)]) hx hb dX4_play_50 hl (by decide) rfl (fun ls hl => ?_)
        refine lv_aload_n hx hb dX4_play_52 rfl (lv_at hl 2 rfl) ?_
        refine lv_aload_n hx hb dX4_play_53 rfl (lv_at hl 3 rfl) ?_
        refine lv_iload hx hb dX4_play_54 (lv_at hl 0 rfl) ?_
        obtain ⟨r4, he4, hF⟩ := bd_s hF
        refine kS_i (va_runV (As := [.int (F_X11_withRoom x4_22 r2.1 r3.1)]) (rest := [.ref (ad 7)]) ⟨hx, hb, hml, hown, hts⟩ (c_X9_howManyWritten l hz D ad ck r3.2.1 r3.2.2.1 r3.2.2.2 (F_X11_withRoom x4_22 r2.1 r3.1) r4 he4) (cwV 1 hts gX4_play_X9_howManyWritten rfl rfl rfl ⟨rfl, pX9_howManyWritten⟩ ⟨Nat.le_of_ble_eq_true rfl, Nat.le_of_ble_eq_true rfl⟩) (kR.preV (va_recv hK hP (ci := 9) (q0 := 2) rfl rfl) hP (hE.kept hS hnA)) rfl rfl hl.1 rfl (lv_room (Nat.le_of_ble_eq_true rfl)) dX4_play_56 ⟨Nat.le_refl _, Nat.le_refl _⟩) ?_
        refine va_put (D := D) (ci := 4) (v := .int r4) (ty := .int) (C := RX4) (T := TX4) (N := 3) hx hb hts hiX4 tyX4 tyX4_ok nmX4 hown hK hP hD hS 7 rfl rfl 2 (by decide) hf43 (fun _ h9 => h9) rfl (tyX4_ok 2 (by decide)) rfl rfl (Nat.le_of_ble_eq_true rfl) dX4_play_59 (fun H locs hP hD hS => ?_)
        have hP := kPe (ef_wX7_2 ad ck r3.2.1 r3.2.2.1 r3.2.2.2 r4) hP
        have hD := kDe (ef_wX7_2 ad ck r3.2.1 r3.2.2.1 r3.2.2.2 r4) hD
        refine lv_aload_n hx hb dX4_play_62 rfl (lv_at hl 2 rfl) ?_
        refine lv_dup hx hb dX4_play_63 rfl ?_
        refine va_get (D := D) (ci := 4) (v := .int ((upd r3.2.1 20 r4) 19)) (C := RX4) (T := TX4) (N := 3) hx hb hts hiX4 hown hK hP 7 rfl rfl 1 (by decide) hf15 (fun _ h9 => h9) rfl dX4_play_64 ?_
        refine lv_aload_n hx hb dX4_play_67 rfl (lv_at hl 2 rfl) ?_
        refine va_get (D := D) (ci := 4) (v := .int ((upd r3.2.1 20 r4) 20)) (C := RX4) (T := TX4) (N := 3) hx hb hts hiX4 hown hK hP 7 rfl rfl 2 (by decide) hf43 (fun _ h9 => h9) rfl dX4_play_68 ?_
        refine lv_iadd hx hb dX4_play_71 ?_
        refine va_put (D := D) (ci := 4) (v := .int (((upd r3.2.1 20 r4) 19) + ((upd r3.2.1 20 r4) 20))) (ty := .int) (C := RX4) (T := TX4) (N := 3) hx hb hts hiX4 tyX4 tyX4_ok nmX4 hown hK hP hD hS 7 rfl rfl 1 (by decide) hf15 (fun _ h9 => h9) rfl (tyX4_ok 1 (by decide)) rfl rfl (Nat.le_of_ble_eq_true rfl) dX4_play_72 (fun H locs hP hD hS => ?_)
        have hP := kPe (ef_wX7_1 ad ck (upd r3.2.1 20 r4) r3.2.2.1 r3.2.2.2 (((upd r3.2.1 20 r4) 19) + ((upd r3.2.1 20 r4) 20))) hP
        have hD := kDe (ef_wX7_1 ad ck (upd r3.2.1 20 r4) r3.2.2.1 r3.2.2.2 (((upd r3.2.1 20 r4) 19) + ((upd r3.2.1 20 r4) 20))) hD
        refine lv_iinc (v := (x5_22 + 1)) (lv' := [(5, .int (x5_22 + 1)), (4, .int (F_X11_withRoom x4_22 r2.1 r3.1)), (6, .int r2.1), (0, .ref (ad 7)), (1, .ref (ad 2)), (2, .int x2_22)]) hx hb dX4_play_75 hl (k := 5) rfl rfl (by decide) rfl (fun ls hl => ?_)
        refine lv_goto (tgt := 22) hx hb dX4_play_78 (by decide) ?_
        have hF := Option.some.inj hF
        subst hF
        obtain ⟨r, hF, hp⟩ := hp
        exact ih22 (upd (upd r3.2.1 20 r4) 19 (((upd r3.2.1 20 r4) 19) + ((upd r3.2.1 20 r4) 20))) r3.2.2.1 r3.2.2.2 _ _ (F_X11_withRoom x4_22 r2.1 r3.1) (x5_22 + 1) ls hP hD hS (lv_sub hl [3, 4, 5, 1, 0] rfl) r hF hp
  have hl := lv_entry ([.ref (ad 7), .ref (ad 2), .int p2, .int p3]) (n := 7) (Nat.le_of_ble_eq_true rfl)
  rw [lg_entry_eq]
  generalize (lg_sl ([.ref (ad 7), .ref (ad 2), .int p2, .int p3]) ++ List.replicate (7 - (lg_sl ([.ref (ad 7), .ref (ad 2), .int p2, .int p3])).length) Slot.unset).toArray = ls at hl ⊢
  have hl : lv_has ls 7 [(0, .ref (ad 7)), (1, .ref (ad 2)), (2, .int p2), (3, .int p3)] := hl
  obtain ⟨r, hF, hp⟩ : ∃ r, F_X4_play f0 g0 a0 p2 p3 = some r ∧ r = out := ⟨out, hF, rfl⟩
  unfold F_X4_play at hF
  refine lv_aload_n hx hb dX4_play_0 rfl (lv_at hl 0 rfl) ?_
  refine lv_iload_n hx hb dX4_play_1 rfl (lv_at hl 3 rfl) ?_
  refine va_put (D := D) (ci := 4) (v := .int p3) (ty := .int) (C := RX4) (T := TX4) (N := 3) hx hb hts hiX4 tyX4 tyX4_ok nmX4 hown hK hP hD hS 7 rfl rfl 0 (by decide) hf9 (fun _ h9 => h9) rfl (tyX4_ok 0 (by decide)) rfl rfl (Nat.le_of_ble_eq_true rfl) dX4_play_2 (fun H locs hP hD hS => ?_)
  have hP := kPe (ef_wX7_0 ad ck f0 g0 a0 p3) hP
  have hD := kDe (ef_wX7_0 ad ck f0 g0 a0 p3) hD
  refine lv_aload_n hx hb dX4_play_5 rfl (lv_at hl 0 rfl) ?_
  refine lv_iconst (v := 0) hx hb dX4_play_6 (by decide) ?_
  refine va_put (D := D) (ci := 4) (v := .int 0) (ty := .int) (C := RX4) (T := TX4) (N := 3) hx hb hts hiX4 tyX4 tyX4_ok nmX4 hown hK hP hD hS 7 rfl rfl 1 (by decide) hf15 (fun _ h9 => h9) rfl (tyX4_ok 1 (by decide)) rfl rfl (Nat.le_of_ble_eq_true rfl) dX4_play_7 (fun H locs hP hD hS => ?_)
  have hP := kPe (ef_wX7_1 ad ck (upd f0 18 p3) g0 a0 0) hP
  have hD := kDe (ef_wX7_1 ad ck (upd f0 18 p3) g0 a0 0) hD
  refine lv_aload_n hx hb dX4_play_10 rfl (lv_at hl 1 rfl) ?_
  refine va_get (D := D) (ci := 9) (v := .ref (ad 3)) (C := RX9) (T := TX9) (N := 4) hx hb hts hiX9 hown hK hP 2 rfl rfl 0 (by decide) hf18 (fun _ h9 => h9) rfl dX4_play_11 ?_
  refine va_get (D := D) (ci := 3) (v := .int ((upd (upd f0 18 p3) 19 0) 6)) (C := RX3) (T := TX3) (N := 10) hx hb hts hiX3 hown hK hP 3 rfl rfl 6 (by decide) hf24 (fun _ h9 => h9) rfl dX4_play_14 ?_
  refine lv_istore (lv' := [(4, .int ((upd (upd f0 18 p3) 19 0) 6)), (0, .ref (ad 7)), (1, .ref (ad 2)), (2, .int p2), (3, .int p3)]) hx hb dX4_play_17 hl (by decide) rfl (fun ls hl => ?_)
  refine lv_iconst (v := 0) hx hb dX4_play_19 (by decide) ?_
  refine lv_istore (lv' := [(5, .int 0), (4, .int ((upd (upd f0 18 p3) 19 0) 6)), (0, .ref (ad 7)), (1, .ref (ad 2)), (2, .int p2), (3, .int p3)]) hx hb dX4_play_20 hl (by decide) rfl (fun ls hl => ?_)
  exact hN_22 p2 kFu (upd (upd f0 18 p3) 19 0) g0 a0 _ _ ((upd (upd f0 18 p3) 19 0) 6) 0 ls hP hD hS (lv_sub hl [2, 3, 4, 1, 0] rfl) _ hF hp
