/-! ===== the class, by program (tools/gen.py) ===== -/
def B_X3_clear_2 (f2 : Nat → Int32) (g2 : Nat → Int64) (a2 : Nat → Nat → Int32) (x1_2 : Int32) : Option ((Int32 × ST) ⊕ ST) := if 5 ≤ x1_2 then Option.map Sum.inr (some ((upd (upd (upd (upd f2 6 0) 7 0) 8 0) 9 0), g2, a2)) else some (.inl ((x1_2 + 1), f2, g2, (us (us (us a2 14 (F_put 5 (a2 14) x1_2 0)) 15 (F_put 5 ((us a2 14 (F_put 5 (a2 14) x1_2 0)) 15) x1_2 0)) 16 (F_put 5 ((us (us a2 14 (F_put 5 (a2 14) x1_2 0)) 15 (F_put 5 ((us a2 14 (F_put 5 (a2 14) x1_2 0)) 15) x1_2 0)) 16) x1_2 0))))
def N_X3_clear_2 (f2 : Nat → Int32) (g2 : Nat → Int64) (a2 : Nat → Nat → Int32) (x1_2 : Int32) : Option ST := lpN (fun q2 : (Int32 × ST) => B_X3_clear_2 q2.2.1 q2.2.2.1 q2.2.2.2 q2.1) kFu (x1_2, f2, g2, a2)
def F_X3_clear (f0 : Nat → Int32) (g0 : Nat → Int64) (a0 : Nat → Nat → Int32) : Option ST := N_X3_clear_2 f0 g0 a0 0
set_option maxHeartbeats 4000000 in
set_option maxRecDepth 100000 in
theorem c_X3_clear (l : Launch) (hz : Nat) (D : va_G) (ad : Nat → Nat) (ck : Nat → ClassId) (f0 : Nat → Int32) (g0 : Nat → Int64) (a0 : Nat → Nat → Int32) (out : ST) (hF : F_X3_clear f0 g0 a0 = some out) : Met l yX3_clear wsX3_clear ({ frames := 1, cells := 0, slots := 0, locals := 22 }) (kW hz D vwCl (tX ck) (wX ad ck f0 g0 a0) [.ref (ad 3)]) (kQ D vwCl none (wX ad ck f0 g0 a0) (wX ad ck out.1 out.2.1 out.2.2)) 0 0 (kAd (wX ad ck f0 g0 a0)) := by
  refine Met.ofW (cc := cX3_clear) (maxL := 2) (ret := none) (by decide) rfl ?_
  intro p e s m args below meth c s₁ B hml hv
  obtain ⟨rfl, hP, hE, hD0⟩ := hv
  have hx := B.exec
  have hb := B.bytes
  have hr := B.returns
  have hts := atoms_spec (ws := wsX3_clear) B.pre
  have hown : s.vm.findClass RX3 = some m.cls := findClass_of_methodNamed B.named
  have hlocks := B.notSynchronized
  have hK := hE.1
  have hnA := kAd_up hD0
  have hD := kD_self hD0
  have hS : va_S (kAd (wX ad ck f0 g0 a0)) s.heap s.heap [] := va_S.rf
  have hiX3 : ∀ w ∈ u_ws RX3 TX3 10, w ∈ wsX3_clear := by decide +kernel
  have hf9 := hts (.fieldLink RX3 9 "SpeltByFriends$Ledger" "firstHolder" "[I") (by decide +kernel)
  have hf15 := hts (.fieldLink RX3 15 "SpeltByFriends$Ledger" "lastHolder" "[I") (by decide +kernel)
  have hf18 := hts (.fieldLink RX3 18 "SpeltByFriends$Ledger" "foes" "[I") (by decide +kernel)
  have hf34 := hts (.fieldLink RX3 34 "SpeltByFriends$Ledger" "rooms" "I") (by decide +kernel)
  have hf38 := hts (.fieldLink RX3 38 "SpeltByFriends$Ledger" "heard" "I") (by decide +kernel)
  have hf41 := hts (.fieldLink RX3 41 "SpeltByFriends$Ledger" "went" "I") (by decide +kernel)
  have hf44 := hts (.fieldLink RX3 44 "SpeltByFriends$Ledger" "sold" "I") (by decide +kernel)
  have hN_2 : ∀ (n2 : Nat) (f2 : Nat → Int32) (g2 : Nat → Int64) (a2 : Nat → Nat → Int32) (H : Heap) (locs : List Loc) (x1_2 : Int32) (ls : Array Slot), va_P D vwCl (wX ad ck f2 g2 a2) H → va_D (kAd (wX ad ck f0 g0 a0)) (wX ad ck f2 g2 a2) → va_S (kAd (wX ad ck f0 g0 a0)) s.heap H locs → lv_has ls 2 [(0, .ref (ad 3)), (1, .int x1_2)] → ∀ r : ST, lpN (fun q2 : (Int32 × ST) => B_X3_clear_2 q2.2.1 q2.2.2.1 q2.2.2.2 q2.1) n2 (x1_2, f2, g2, a2) = some r → (fun r => r = out) r → W p l e (headSpec wsX3_clear ({ frames := 1, cells := 0, slots := 0, locals := 22 })).room s m [.ref (ad 3)].toArray below meth c H locs 0 0 (MQ below (kQ D vwCl none (wX ad ck f0 g0 a0) (wX ad ck out.1 out.2.1 out.2.2)) [.ref (ad 3)].toArray s 0 0 (kAd (wX ad ck f0 g0 a0))) (F0 m 2 ls []) := by
    intro n2
    induction n2 with
    | zero => intro f2 g2 a2 H locs x1_2 ls hP hD hS hl r hF hp; exact (lp_z hF).elim
    | succ n2 ih2 =>
      intro f2 g2 a2 H locs x1_2 ls hP hD hS hl r hF hp
      obtain ⟨rs, hF, hp⟩ := lpN_K (P := (fun r => r = out)) hF hp
      unfold B_X3_clear_2 at hF
      refine lv_iload_n hx hb dX3_clear_2 rfl (lv_at hl 1 rfl) ?_
      refine lv_iconst (v := 5) hx hb dX3_clear_3 (by decide) ?_
      refine lv_icmp_ge (tgt := 40) hx hb dX3_clear_4 (by decide) (fun hc1 => ?_) (fun hc1 => ?_)
      · have hF := it_p hc1 hF
        obtain ⟨r, hF1, hr0⟩ := mp_s hF
        clear hF
        subst hr0
        have hF := hF1
        clear hF1
        have hp : (fun r => r = out) r := hp
        refine lv_aload_n hx hb dX3_clear_40 rfl (lv_at hl 0 rfl) ?_
        refine lv_iconst (v := 0) hx hb dX3_clear_41 (by decide) ?_
        refine va_put (D := D) (ci := 3) (v := .int 0) (ty := .int) (C := RX3) (T := TX3) (N := 10) hx hb hts hiX3 tyX3 tyX3_ok nmX3 hown hK hP hD hS 3 rfl rfl 6 (by decide) hf34 (fun _ h9 => h9) rfl (tyX3_ok 6 (by decide)) rfl rfl (Nat.le_of_ble_eq_true rfl) dX3_clear_42 (fun H locs hP hD hS => ?_)
        have hP := kPe (ef_wX3_6 ad ck f2 g2 a2 0) hP
        have hD := kDe (ef_wX3_6 ad ck f2 g2 a2 0) hD
        refine lv_aload_n hx hb dX3_clear_45 rfl (lv_at hl 0 rfl) ?_
        refine lv_iconst (v := 0) hx hb dX3_clear_46 (by decide) ?_
        refine va_put (D := D) (ci := 3) (v := .int 0) (ty := .int) (C := RX3) (T := TX3) (N := 10) hx hb hts hiX3 tyX3 tyX3_ok nmX3 hown hK hP hD hS 3 rfl rfl 7 (by decide) hf38 (fun _ h9 => h9) rfl (tyX3_ok 7 (by decide)) rfl rfl (Nat.le_of_ble_eq_true rfl) dX3_clear_47 (fun H locs hP hD hS => ?_)
        have hP := kPe (ef_wX3_7 ad ck (upd f2 6 0) g2 a2 0) hP
        have hD := kDe (ef_wX3_7 ad ck (upd f2 6 0) g2 a2 0) hD
        refine lv_aload_n hx hb dX3_clear_50 rfl (lv_at hl 0 rfl) ?_
        refine lv_iconst (v := 0) hx hb dX3_clear_51 (by decide) ?_
        refine va_put (D := D) (ci := 3) (v := .int 0) (ty := .int) (C := RX3) (T := TX3) (N := 10) hx hb hts hiX3 tyX3 tyX3_ok nmX3 hown hK hP hD hS 3 rfl rfl 8 (by decide) hf41 (fun _ h9 => h9) rfl (tyX3_ok 8 (by decide)) rfl rfl (Nat.le_of_ble_eq_true rfl) dX3_clear_52 (fun H locs hP hD hS => ?_)
        have hP := kPe (ef_wX3_8 ad ck (upd (upd f2 6 0) 7 0) g2 a2 0) hP
        have hD := kDe (ef_wX3_8 ad ck (upd (upd f2 6 0) 7 0) g2 a2 0) hD
        refine lv_aload_n hx hb dX3_clear_55 rfl (lv_at hl 0 rfl) ?_
        refine lv_iconst (v := 0) hx hb dX3_clear_56 (by decide) ?_
        refine va_put (D := D) (ci := 3) (v := .int 0) (ty := .int) (C := RX3) (T := TX3) (N := 10) hx hb hts hiX3 tyX3 tyX3_ok nmX3 hown hK hP hD hS 3 rfl rfl 9 (by decide) hf44 (fun _ h9 => h9) rfl (tyX3_ok 9 (by decide)) rfl rfl (Nat.le_of_ble_eq_true rfl) dX3_clear_57 (fun H locs hP hD hS => ?_)
        have hP := kPe (ef_wX3_9 ad ck (upd (upd (upd f2 6 0) 7 0) 8 0) g2 a2 0) hP
        have hD := kDe (ef_wX3_9 ad ck (upd (upd (upd f2 6 0) 7 0) 8 0) g2 a2 0) hD
        have hF := (Option.some.inj hF).trans hp
        subst hF
        exact W.vret hx hb hr (fun t ht hW => ⟨rfl, by rw [ht]; exact hP, hS.F ht⟩) hS.2.2 dX3_clear_60
      · have hF := it_n hc1 hF
        refine lv_aload_n hx hb dX3_clear_7 rfl (lv_at hl 0 rfl) ?_
        refine va_get (D := D) (ci := 3) (v := .ref (ad 14)) (C := RX3) (T := TX3) (N := 10) hx hb hts hiX3 hown hK hP 3 rfl rfl 0 (by decide) hf9 (fun _ h9 => h9) rfl dX3_clear_8 ?_
        refine lv_iload_n hx hb dX3_clear_11 rfl (lv_at hl 1 rfl) ?_
        refine lv_iconst (v := 0) hx hb dX3_clear_12 (by decide) ?_
        refine kS_w (va_runSN (As := [.ref (ad 14), .int x1_2, .int 0]) (rest := []) ⟨hx, hb, hml, hown, hts⟩ (c_X11_put l hz D (tX ck) (wX ad ck f2 g2 a2) 14 1 rfl rfl (by decide) x1_2 0) ⟨va_cnB 3 hts gX3_clear_X11_put_n30 rfl rfl rfl (hE.2.1 _ knX3_30) (hts (.initialized RX11) (by decide +kernel)) pX11_put ⟨Nat.le_of_ble_eq_true rfl, Nat.le_of_ble_eq_true rfl⟩, hts (.static yX11_put) (by decide +kernel), trivial⟩ (kW.preS hP (hE.kept hS hnA) hD hnA) rfl rfl hl.1 rfl (lv_room (Nat.le_of_ble_eq_true rfl)) dX3_clear_13 ⟨Nat.le_refl _, Nat.le_refl _⟩) hD hS (kSet_fst rfl) (fun H locs hP hD hS => ?_)
        have hP := kPe (es_wX14 ad ck f2 g2 a2 (F_put 5 (a2 14) x1_2 0)) hP
        have hD := kDe (es_wX14 ad ck f2 g2 a2 (F_put 5 (a2 14) x1_2 0)) hD
        refine lv_aload_n hx hb dX3_clear_16 rfl (lv_at hl 0 rfl) ?_
        refine va_get (D := D) (ci := 3) (v := .ref (ad 15)) (C := RX3) (T := TX3) (N := 10) hx hb hts hiX3 hown hK hP 3 rfl rfl 1 (by decide) hf15 (fun _ h9 => h9) rfl dX3_clear_17 ?_
        refine lv_iload_n hx hb dX3_clear_20 rfl (lv_at hl 1 rfl) ?_
        refine lv_iconst (v := 0) hx hb dX3_clear_21 (by decide) ?_
        refine kS_w (va_runSN (As := [.ref (ad 15), .int x1_2, .int 0]) (rest := []) ⟨hx, hb, hml, hown, hts⟩ (c_X11_put l hz D (tX ck) (wX ad ck f2 g2 (us a2 14 (F_put 5 (a2 14) x1_2 0))) 15 2 rfl rfl (by decide) x1_2 0) ⟨va_cnB 3 hts gX3_clear_X11_put_n30 rfl rfl rfl (hE.2.1 _ knX3_30) (hts (.initialized RX11) (by decide +kernel)) pX11_put ⟨Nat.le_of_ble_eq_true rfl, Nat.le_of_ble_eq_true rfl⟩, hts (.static yX11_put) (by decide +kernel), trivial⟩ (kW.preS hP (hE.kept hS hnA) hD hnA) rfl rfl hl.1 rfl (lv_room (Nat.le_of_ble_eq_true rfl)) dX3_clear_22 ⟨Nat.le_refl _, Nat.le_refl _⟩) hD hS (kSet_fst rfl) (fun H locs hP hD hS => ?_)
        have hP := kPe (es_wX15 ad ck f2 g2 (us a2 14 (F_put 5 (a2 14) x1_2 0)) (F_put 5 ((us a2 14 (F_put 5 (a2 14) x1_2 0)) 15) x1_2 0)) hP
        have hD := kDe (es_wX15 ad ck f2 g2 (us a2 14 (F_put 5 (a2 14) x1_2 0)) (F_put 5 ((us a2 14 (F_put 5 (a2 14) x1_2 0)) 15) x1_2 0)) hD
        refine lv_aload_n hx hb dX3_clear_25 rfl (lv_at hl 0 rfl) ?_
        refine va_get (D := D) (ci := 3) (v := .ref (ad 16)) (C := RX3) (T := TX3) (N := 10) hx hb hts hiX3 hown hK hP 3 rfl rfl 2 (by decide) hf18 (fun _ h9 => h9) rfl dX3_clear_26 ?_
        refine lv_iload_n hx hb dX3_clear_29 rfl (lv_at hl 1 rfl) ?_
        refine lv_iconst (v := 0) hx hb dX3_clear_30 (by decide) ?_
        refine kS_w (va_runSN (As := [.ref (ad 16), .int x1_2, .int 0]) (rest := []) ⟨hx, hb, hml, hown, hts⟩ (c_X11_put l hz D (tX ck) (wX ad ck f2 g2 (us (us a2 14 (F_put 5 (a2 14) x1_2 0)) 15 (F_put 5 ((us a2 14 (F_put 5 (a2 14) x1_2 0)) 15) x1_2 0))) 16 3 rfl rfl (by decide) x1_2 0) ⟨va_cnB 3 hts gX3_clear_X11_put_n30 rfl rfl rfl (hE.2.1 _ knX3_30) (hts (.initialized RX11) (by decide +kernel)) pX11_put ⟨Nat.le_of_ble_eq_true rfl, Nat.le_of_ble_eq_true rfl⟩, hts (.static yX11_put) (by decide +kernel), trivial⟩ (kW.preS hP (hE.kept hS hnA) hD hnA) rfl rfl hl.1 rfl (lv_room (Nat.le_of_ble_eq_true rfl)) dX3_clear_31 ⟨Nat.le_refl _, Nat.le_refl _⟩) hD hS (kSet_fst rfl) (fun H locs hP hD hS => ?_)
        have hP := kPe (es_wX16 ad ck f2 g2 (us (us a2 14 (F_put 5 (a2 14) x1_2 0)) 15 (F_put 5 ((us a2 14 (F_put 5 (a2 14) x1_2 0)) 15) x1_2 0)) (F_put 5 ((us (us a2 14 (F_put 5 (a2 14) x1_2 0)) 15 (F_put 5 ((us a2 14 (F_put 5 (a2 14) x1_2 0)) 15) x1_2 0)) 16) x1_2 0)) hP
        have hD := kDe (es_wX16 ad ck f2 g2 (us (us a2 14 (F_put 5 (a2 14) x1_2 0)) 15 (F_put 5 ((us a2 14 (F_put 5 (a2 14) x1_2 0)) 15) x1_2 0)) (F_put 5 ((us (us a2 14 (F_put 5 (a2 14) x1_2 0)) 15 (F_put 5 ((us a2 14 (F_put 5 (a2 14) x1_2 0)) 15) x1_2 0)) 16) x1_2 0)) hD
        refine lv_iinc (v := (x1_2 + 1)) (lv' := [(1, .int (x1_2 + 1)), (0, .ref (ad 3))]) hx hb dX3_clear_34 hl (k := 1) rfl rfl (by decide) rfl (fun ls hl => ?_)
        refine lv_goto (tgt := 2) hx hb dX3_clear_37 (by decide) ?_
        have hF := Option.some.inj hF
        subst hF
        obtain ⟨r, hF, hp⟩ := hp
        exact ih2 f2 g2 (us (us (us a2 14 (F_put 5 (a2 14) x1_2 0)) 15 (F_put 5 ((us a2 14 (F_put 5 (a2 14) x1_2 0)) 15) x1_2 0)) 16 (F_put 5 ((us (us a2 14 (F_put 5 (a2 14) x1_2 0)) 15 (F_put 5 ((us a2 14 (F_put 5 (a2 14) x1_2 0)) 15) x1_2 0)) 16) x1_2 0)) _ _ (x1_2 + 1) ls hP hD hS (lv_sub hl [1, 0] rfl) r hF hp
  have hl := lv_entry ([.ref (ad 3)]) (n := 2) (Nat.le_of_ble_eq_true rfl)
  rw [lg_entry_eq]
  generalize (lg_sl ([.ref (ad 3)]) ++ List.replicate (2 - (lg_sl ([.ref (ad 3)])).length) Slot.unset).toArray = ls at hl ⊢
  have hl : lv_has ls 2 [(0, .ref (ad 3))] := hl
  obtain ⟨r, hF, hp⟩ : ∃ r, F_X3_clear f0 g0 a0 = some r ∧ r = out := ⟨out, hF, rfl⟩
  unfold F_X3_clear at hF
  refine lv_iconst (v := 0) hx hb dX3_clear_0 (by decide) ?_
  refine lv_istore_n (lv' := [(1, .int 0), (0, .ref (ad 3))]) hx hb dX3_clear_1 rfl hl (by decide) rfl (fun ls hl => ?_)
  exact hN_2 kFu f0 g0 a0 _ _ 0 ls hP hD hS (lv_sub hl [1, 0] rfl) _ hF hp

def B_X3_copyK_68 (f68 : Nat → Int32) (g68 : Nat → Int64) (a68 : Nat → Nat → Int32) (x2_68 : Int32) : Option ((Int32 × ST) ⊕ ST) := if 6 ≤ x2_68 then Option.map Sum.inr (some ((upd (upd (upd (upd f68 10 (f68 6)) 11 ((upd f68 10 (f68 6)) 7)) 12 ((upd (upd f68 10 (f68 6)) 11 ((upd f68 10 (f68 6)) 7)) 8)) 13 ((upd (upd (upd f68 10 (f68 6)) 11 ((upd f68 10 (f68 6)) 7)) 12 ((upd (upd f68 10 (f68 6)) 11 ((upd f68 10 (f68 6)) 7)) 8)) 9)), g68, a68)) else some (.inl ((x2_68 + 1), f68, g68, (us (us (us a68 23 (F_put 6 (a68 23) x2_68 (F_at 6 (a68 17) x2_68))) 24 (F_put 6 ((us a68 23 (F_put 6 (a68 23) x2_68 (F_at 6 (a68 17) x2_68))) 24) x2_68 (F_at 6 ((us a68 23 (F_put 6 (a68 23) x2_68 (F_at 6 (a68 17) x2_68))) 18) x2_68))) 25 (F_put 6 ((us (us a68 23 (F_put 6 (a68 23) x2_68 (F_at 6 (a68 17) x2_68))) 24 (F_put 6 ((us a68 23 (F_put 6 (a68 23) x2_68 (F_at 6 (a68 17) x2_68))) 24) x2_68 (F_at 6 ((us a68 23 (F_put 6 (a68 23) x2_68 (F_at 6 (a68 17) x2_68))) 18) x2_68))) 25) x2_68 (F_at 6 ((us (us a68 23 (F_put 6 (a68 23) x2_68 (F_at 6 (a68 17) x2_68))) 24 (F_put 6 ((us a68 23 (F_put 6 (a68 23) x2_68 (F_at 6 (a68 17) x2_68))) 24) x2_68 (F_at 6 ((us a68 23 (F_put 6 (a68 23) x2_68 (F_at 6 (a68 17) x2_68))) 18) x2_68))) 19) x2_68)))))
def N_X3_copyK_68 (f68 : Nat → Int32) (g68 : Nat → Int64) (a68 : Nat → Nat → Int32) (x2_68 : Int32) : Option ST := lpN (fun q68 : (Int32 × ST) => B_X3_copyK_68 q68.2.1 q68.2.2.1 q68.2.2.2 q68.1) kFu (x2_68, f68, g68, a68)
def B_X3_copyK_7 (f7 : Nat → Int32) (g7 : Nat → Int64) (a7 : Nat → Nat → Int32) (x2_7 : Int32) : Option ((Int32 × ST) ⊕ ST) := if 5 ≤ x2_7 then Option.map Sum.inr (N_X3_copyK_68 f7 g7 a7 0) else some (.inl ((x2_7 + 1), f7, g7, (us (us (us a7 20 (F_put 5 (a7 20) x2_7 (F_at 5 (a7 14) x2_7))) 21 (F_put 5 ((us a7 20 (F_put 5 (a7 20) x2_7 (F_at 5 (a7 14) x2_7))) 21) x2_7 (F_at 5 ((us a7 20 (F_put 5 (a7 20) x2_7 (F_at 5 (a7 14) x2_7))) 15) x2_7))) 22 (F_put 5 ((us (us a7 20 (F_put 5 (a7 20) x2_7 (F_at 5 (a7 14) x2_7))) 21 (F_put 5 ((us a7 20 (F_put 5 (a7 20) x2_7 (F_at 5 (a7 14) x2_7))) 21) x2_7 (F_at 5 ((us a7 20 (F_put 5 (a7 20) x2_7 (F_at 5 (a7 14) x2_7))) 15) x2_7))) 22) x2_7 (F_at 5 ((us (us a7 20 (F_put 5 (a7 20) x2_7 (F_at 5 (a7 14) x2_7))) 21 (F_put 5 ((us a7 20 (F_put 5 (a7 20) x2_7 (F_at 5 (a7 14) x2_7))) 21) x2_7 (F_at 5 ((us a7 20 (F_put 5 (a7 20) x2_7 (F_at 5 (a7 14) x2_7))) 15) x2_7))) 16) x2_7)))))
def N_X3_copyK_7 (f7 : Nat → Int32) (g7 : Nat → Int64) (a7 : Nat → Nat → Int32) (x2_7 : Int32) : Option ST := lpN (fun q7 : (Int32 × ST) => B_X3_copyK_7 q7.2.1 q7.2.2.1 q7.2.2.2 q7.1) kFu (x2_7, f7, g7, a7)
def F_X3_copyK (f0 : Nat → Int32) (g0 : Nat → Int64) (a0 : Nat → Nat → Int32) : Option ST := N_X3_copyK_7 f0 g0 a0 0
set_option maxHeartbeats 4000000 in
set_option maxRecDepth 100000 in
theorem c_X3_copyK (l : Launch) (hz : Nat) (D : va_G) (ad : Nat → Nat) (ck : Nat → ClassId) (f0 : Nat → Int32) (g0 : Nat → Int64) (a0 : Nat → Nat → Int32) (out : ST) (hF : F_X3_copyK f0 g0 a0 = some out) : Met l yX3_copy wsX3_copy ({ frames := 1, cells := 0, slots := 0, locals := 22 }) (kW hz D vwCl (tX ck) (wX ad ck f0 g0 a0) [.ref (ad 4), .ref (ad 3)]) (kQ D vwCl none (wX ad ck f0 g0 a0) (wX ad ck out.1 out.2.1 out.2.2)) 0 0 (kAd (wX ad ck f0 g0 a0)) := by
  refine Met.ofW (cc := cX3_copy) (maxL := 3) (ret := none) (by decide) rfl ?_
  intro p e s m args below meth c s₁ B hml hv
  obtain ⟨rfl, hP, hE, hD0⟩ := hv
  have hx := B.exec
  have hb := B.bytes
  have hr := B.returns
  have hts := atoms_spec (ws := wsX3_copy) B.pre
  have hown : s.vm.findClass RX3 = some m.cls := findClass_of_methodNamed B.named
  have hlocks := B.notSynchronized
  have hK := hE.1
  have hnA := kAd_up hD0
  have hD := kD_self hD0
  have hS : va_S (kAd (wX ad ck f0 g0 a0)) s.heap s.heap [] := va_S.rf
  have hiX3 : ∀ w ∈ u_ws RX3 TX3 10, w ∈ wsX3_copy := by decide +kernel
  have hf9 := hts (.fieldLink RX3 9 "SpeltByFriends$Ledger" "firstHolder" "[I") (by decide +kernel)
  have hf15 := hts (.fieldLink RX3 15 "SpeltByFriends$Ledger" "lastHolder" "[I") (by decide +kernel)
  have hf18 := hts (.fieldLink RX3 18 "SpeltByFriends$Ledger" "foes" "[I") (by decide +kernel)
  have hf21 := hts (.fieldLink RX3 21 "SpeltByFriends$Ledger" "heardOf" "[I") (by decide +kernel)
  have hf24 := hts (.fieldLink RX3 24 "SpeltByFriends$Ledger" "heardIn" "[I") (by decide +kernel)
  have hf27 := hts (.fieldLink RX3 27 "SpeltByFriends$Ledger" "heardYes" "[I") (by decide +kernel)
  have hf34 := hts (.fieldLink RX3 34 "SpeltByFriends$Ledger" "rooms" "I") (by decide +kernel)
  have hf38 := hts (.fieldLink RX3 38 "SpeltByFriends$Ledger" "heard" "I") (by decide +kernel)
  have hf41 := hts (.fieldLink RX3 41 "SpeltByFriends$Ledger" "went" "I") (by decide +kernel)
  have hf44 := hts (.fieldLink RX3 44 "SpeltByFriends$Ledger" "sold" "I") (by decide +kernel)
  have hN_68 : ∀ (n68 : Nat) (f68 : Nat → Int32) (g68 : Nat → Int64) (a68 : Nat → Nat → Int32) (H : Heap) (locs : List Loc) (x2_68 : Int32) (ls : Array Slot), va_P D vwCl (wX ad ck f68 g68 a68) H → va_D (kAd (wX ad ck f0 g0 a0)) (wX ad ck f68 g68 a68) → va_S (kAd (wX ad ck f0 g0 a0)) s.heap H locs → lv_has ls 3 [(0, .ref (ad 4)), (1, .ref (ad 3)), (2, .int x2_68)] → ∀ r : ST, lpN (fun q68 : (Int32 × ST) => B_X3_copyK_68 q68.2.1 q68.2.2.1 q68.2.2.2 q68.1) n68 (x2_68, f68, g68, a68) = some r → (fun r => r = out) r → W p l e (headSpec wsX3_copy ({ frames := 1, cells := 0, slots := 0, locals := 22 })).room s m [.ref (ad 4), .ref (ad 3)].toArray below meth c H locs 0 0 (MQ below (kQ D vwCl none (wX ad ck f0 g0 a0) (wX ad ck out.1 out.2.1 out.2.2)) [.ref (ad 4), .ref (ad 3)].toArray s 0 0 (kAd (wX ad ck f0 g0 a0))) (F0 m 68 ls []) := by
    intro n68
    induction n68 with
    | zero => intro f68 g68 a68 H locs x2_68 ls hP hD hS hl r hF hp; exact (lp_z hF).elim
    | succ n68 ih68 =>
      intro f68 g68 a68 H locs x2_68 ls hP hD hS hl r hF hp
      obtain ⟨rs, hF, hp⟩ := lpN_K (P := (fun r => r = out)) hF hp
      unfold B_X3_copyK_68 at hF
      refine lv_iload_n hx hb dX3_copy_68 rfl (lv_at hl 2 rfl) ?_
      refine lv_bipush (v := 6) hx hb dX3_copy_69 (by decide) ?_
      refine lv_icmp_ge (tgt := 128) hx hb dX3_copy_71 (by decide) (fun hc2 => ?_) (fun hc2 => ?_)
      · have hF := it_p hc2 hF
        obtain ⟨r, hF1, hr0⟩ := mp_s hF
        clear hF
        subst hr0
        have hF := hF1
        clear hF1
        have hp : (fun r => r = out) r := hp
        refine lv_aload_n hx hb dX3_copy_128 rfl (lv_at hl 0 rfl) ?_
        refine lv_aload_n hx hb dX3_copy_129 rfl (lv_at hl 1 rfl) ?_
        refine va_get (D := D) (ci := 3) (v := .int (f68 6)) (C := RX3) (T := TX3) (N := 10) hx hb hts hiX3 hown hK hP 3 rfl rfl 6 (by decide) hf34 (fun _ h9 => h9) rfl dX3_copy_130 ?_
        refine va_put (D := D) (ci := 3) (v := .int (f68 6)) (ty := .int) (C := RX3) (T := TX3) (N := 10) hx hb hts hiX3 tyX3 tyX3_ok nmX3 hown hK hP hD hS 4 rfl rfl 6 (by decide) hf34 (fun _ h9 => h9) rfl (tyX3_ok 6 (by decide)) rfl rfl (Nat.le_of_ble_eq_true rfl) dX3_copy_133 (fun H locs hP hD hS => ?_)
        have hP := kPe (ef_wX4_6 ad ck f68 g68 a68 (f68 6)) hP
        have hD := kDe (ef_wX4_6 ad ck f68 g68 a68 (f68 6)) hD
        refine lv_aload_n hx hb dX3_copy_136 rfl (lv_at hl 0 rfl) ?_
        refine lv_aload_n hx hb dX3_copy_137 rfl (lv_at hl 1 rfl) ?_
        refine va_get (D := D) (ci := 3) (v := .int ((upd f68 10 (f68 6)) 7)) (C := RX3) (T := TX3) (N := 10) hx hb hts hiX3 hown hK hP 3 rfl rfl 7 (by decide) hf38 (fun _ h9 => h9) rfl dX3_copy_138 ?_
        refine va_put (D := D) (ci := 3) (v := .int ((upd f68 10 (f68 6)) 7)) (ty := .int) (C := RX3) (T := TX3) (N := 10) hx hb hts hiX3 tyX3 tyX3_ok nmX3 hown hK hP hD hS 4 rfl rfl 7 (by decide) hf38 (fun _ h9 => h9) rfl (tyX3_ok 7 (by decide)) rfl rfl (Nat.le_of_ble_eq_true rfl) dX3_copy_141 (fun H locs hP hD hS => ?_)
        have hP := kPe (ef_wX4_7 ad ck (upd f68 10 (f68 6)) g68 a68 ((upd f68 10 (f68 6)) 7)) hP
        have hD := kDe (ef_wX4_7 ad ck (upd f68 10 (f68 6)) g68 a68 ((upd f68 10 (f68 6)) 7)) hD
        refine lv_aload_n hx hb dX3_copy_144 rfl (lv_at hl 0 rfl) ?_
        refine lv_aload_n hx hb dX3_copy_145 rfl (lv_at hl 1 rfl) ?_
        refine va_get (D := D) (ci := 3) (v := .int ((upd (upd f68 10 (f68 6)) 11 ((upd f68 10 (f68 6)) 7)) 8)) (C := RX3) (T := TX3) (N := 10) hx hb hts hiX3 hown hK hP 3 rfl rfl 8 (by decide) hf41 (fun _ h9 => h9) rfl dX3_copy_146 ?_
        refine va_put (D := D) (ci := 3) (v := .int ((upd (upd f68 10 (f68 6)) 11 ((upd f68 10 (f68 6)) 7)) 8)) (ty := .int) (C := RX3) (T := TX3) (N := 10) hx hb hts hiX3 tyX3 tyX3_ok nmX3 hown hK hP hD hS 4 rfl rfl 8 (by decide) hf41 (fun _ h9 => h9) rfl (tyX3_ok 8 (by decide)) rfl rfl (Nat.le_of_ble_eq_true rfl) dX3_copy_149 (fun H locs hP hD hS => ?_)
        have hP := kPe (ef_wX4_8 ad ck (upd (upd f68 10 (f68 6)) 11 ((upd f68 10 (f68 6)) 7)) g68 a68 ((upd (upd f68 10 (f68 6)) 11 ((upd f68 10 (f68 6)) 7)) 8)) hP
        have hD := kDe (ef_wX4_8 ad ck (upd (upd f68 10 (f68 6)) 11 ((upd f68 10 (f68 6)) 7)) g68 a68 ((upd (upd f68 10 (f68 6)) 11 ((upd f68 10 (f68 6)) 7)) 8)) hD
        refine lv_aload_n hx hb dX3_copy_152 rfl (lv_at hl 0 rfl) ?_
        refine lv_aload_n hx hb dX3_copy_153 rfl (lv_at hl 1 rfl) ?_
        refine va_get (D := D) (ci := 3) (v := .int ((upd (upd (upd f68 10 (f68 6)) 11 ((upd f68 10 (f68 6)) 7)) 12 ((upd (upd f68 10 (f68 6)) 11 ((upd f68 10 (f68 6)) 7)) 8)) 9)) (C := RX3) (T := TX3) (N := 10) hx hb hts hiX3 hown hK hP 3 rfl rfl 9 (by decide) hf44 (fun _ h9 => h9) rfl dX3_copy_154 ?_
        refine va_put (D := D) (ci := 3) (v := .int ((upd (upd (upd f68 10 (f68 6)) 11 ((upd f68 10 (f68 6)) 7)) 12 ((upd (upd f68 10 (f68 6)) 11 ((upd f68 10 (f68 6)) 7)) 8)) 9)) (ty := .int) (C := RX3) (T := TX3) (N := 10) hx hb hts hiX3 tyX3 tyX3_ok nmX3 hown hK hP hD hS 4 rfl rfl 9 (by decide) hf44 (fun _ h9 => h9) rfl (tyX3_ok 9 (by decide)) rfl rfl (Nat.le_of_ble_eq_true rfl) dX3_copy_157 (fun H locs hP hD hS => ?_)
        have hP := kPe (ef_wX4_9 ad ck (upd (upd (upd f68 10 (f68 6)) 11 ((upd f68 10 (f68 6)) 7)) 12 ((upd (upd f68 10 (f68 6)) 11 ((upd f68 10 (f68 6)) 7)) 8)) g68 a68 ((upd (upd (upd f68 10 (f68 6)) 11 ((upd f68 10 (f68 6)) 7)) 12 ((upd (upd f68 10 (f68 6)) 11 ((upd f68 10 (f68 6)) 7)) 8)) 9)) hP
        have hD := kDe (ef_wX4_9 ad ck (upd (upd (upd f68 10 (f68 6)) 11 ((upd f68 10 (f68 6)) 7)) 12 ((upd (upd f68 10 (f68 6)) 11 ((upd f68 10 (f68 6)) 7)) 8)) g68 a68 ((upd (upd (upd f68 10 (f68 6)) 11 ((upd f68 10 (f68 6)) 7)) 12 ((upd (upd f68 10 (f68 6)) 11 ((upd f68 10 (f68 6)) 7)) 8)) 9)) hD
        have hF := (Option.some.inj hF).trans hp
        subst hF
        exact W.vret hx hb hr (fun t ht hW => ⟨rfl, by rw [ht]; exact hP, hS.F ht⟩) hS.2.2 dX3_copy_160
      · have hF := it_n hc2 hF
        refine lv_aload_n hx hb dX3_copy_74 rfl (lv_at hl 0 rfl) ?_
        refine va_get (D := D) (ci := 3) (v := .ref (ad 23)) (C := RX3) (T := TX3) (N := 10) hx hb hts hiX3 hown hK hP 4 rfl rfl 3 (by decide) hf21 (fun _ h9 => h9) rfl dX3_copy_75 ?_
        refine lv_iload_n hx hb dX3_copy_78 rfl (lv_at hl 2 rfl) ?_
        refine lv_aload_n hx hb dX3_copy_79 rfl (lv_at hl 1 rfl) ?_
        refine va_get (D := D) (ci := 3) (v := .ref (ad 17)) (C := RX3) (T := TX3) (N := 10) hx hb hts hiX3 hown hK hP 3 rfl rfl 3 (by decide) hf21 (fun _ h9 => h9) rfl dX3_copy_80 ?_
        refine lv_iload_n hx hb dX3_copy_83 rfl (lv_at hl 2 rfl) ?_
        refine kS_i (va_runSN (As := [.ref (ad 17), .int x2_68]) (rest := [.int x2_68, .ref (ad 23)]) ⟨hx, hb, hml, hown, hts⟩ (c_X11_at l hz D (tX ck) (wX ad ck f68 g68 a68) 17 4 rfl rfl (by decide) x2_68) ⟨va_cnB 2 hts gX3_copy_X11_at_n47 rfl rfl rfl (hE.2.1 _ knX3_47) (hts (.initialized RX11) (by decide +kernel)) pX11_at ⟨Nat.le_of_ble_eq_true rfl, Nat.le_of_ble_eq_true rfl⟩, hts (.static yX11_at) (by decide +kernel), trivial⟩ (kR.preS hP (hE.kept hS hnA)) rfl rfl hl.1 rfl (lv_room (Nat.le_of_ble_eq_true rfl)) dX3_copy_84 ⟨Nat.le_refl _, Nat.le_refl _⟩) ?_
        refine kS_w (va_runSN (As := [.ref (ad 23), .int x2_68, .int (F_at 6 (a68 17) x2_68)]) (rest := []) ⟨hx, hb, hml, hown, hts⟩ (c_X11_put l hz D (tX ck) (wX ad ck f68 g68 a68) 23 10 rfl rfl (by decide) x2_68 (F_at 6 (a68 17) x2_68)) ⟨va_cnB 3 hts gX3_copy_X11_put_n30 rfl rfl rfl (hE.2.1 _ knX3_30) (hts (.initialized RX11) (by decide +kernel)) pX11_put ⟨Nat.le_of_ble_eq_true rfl, Nat.le_of_ble_eq_true rfl⟩, hts (.static yX11_put) (by decide +kernel), trivial⟩ (kW.preS hP (hE.kept hS hnA) hD hnA) rfl rfl hl.1 rfl (lv_room (Nat.le_of_ble_eq_true rfl)) dX3_copy_87 ⟨Nat.le_refl _, Nat.le_refl _⟩) hD hS (kSet_fst rfl) (fun H locs hP hD hS => ?_)
        have hP := kPe (es_wX23 ad ck f68 g68 a68 (F_put 6 (a68 23) x2_68 (F_at 6 (a68 17) x2_68))) hP
        have hD := kDe (es_wX23 ad ck f68 g68 a68 (F_put 6 (a68 23) x2_68 (F_at 6 (a68 17) x2_68))) hD
        refine lv_aload_n hx hb dX3_copy_90 rfl (lv_at hl 0 rfl) ?_
        refine va_get (D := D) (ci := 3) (v := .ref (ad 24)) (C := RX3) (T := TX3) (N := 10) hx hb hts hiX3 hown hK hP 4 rfl rfl 4 (by decide) hf24 (fun _ h9 => h9) rfl dX3_copy_91 ?_
        refine lv_iload_n hx hb dX3_copy_94 rfl (lv_at hl 2 rfl) ?_
        refine lv_aload_n hx hb dX3_copy_95 rfl (lv_at hl 1 rfl) ?_
        refine va_get (D := D) (ci := 3) (v := .ref (ad 18)) (C := RX3) (T := TX3) (N := 10) hx hb hts hiX3 hown hK hP 3 rfl rfl 4 (by decide) hf24 (fun _ h9 => h9) rfl dX3_copy_96 ?_
        refine lv_iload_n hx hb dX3_copy_99 rfl (lv_at hl 2 rfl) ?_
        refine kS_i (va_runSN (As := [.ref (ad 18), .int x2_68]) (rest := [.int x2_68, .ref (ad 24)]) ⟨hx, hb, hml, hown, hts⟩ (c_X11_at l hz D (tX ck) (wX ad ck f68 g68 (us a68 23 (F_put 6 (a68 23) x2_68 (F_at 6 (a68 17) x2_68)))) 18 5 rfl rfl (by decide) x2_68) ⟨va_cnB 2 hts gX3_copy_X11_at_n47 rfl rfl rfl (hE.2.1 _ knX3_47) (hts (.initialized RX11) (by decide +kernel)) pX11_at ⟨Nat.le_of_ble_eq_true rfl, Nat.le_of_ble_eq_true rfl⟩, hts (.static yX11_at) (by decide +kernel), trivial⟩ (kR.preS hP (hE.kept hS hnA)) rfl rfl hl.1 rfl (lv_room (Nat.le_of_ble_eq_true rfl)) dX3_copy_100 ⟨Nat.le_refl _, Nat.le_refl _⟩) ?_
        refine kS_w (va_runSN (As := [.ref (ad 24), .int x2_68, .int (F_at 6 ((us a68 23 (F_put 6 (a68 23) x2_68 (F_at 6 (a68 17) x2_68))) 18) x2_68)]) (rest := []) ⟨hx, hb, hml, hown, hts⟩ (c_X11_put l hz D (tX ck) (wX ad ck f68 g68 (us a68 23 (F_put 6 (a68 23) x2_68 (F_at 6 (a68 17) x2_68)))) 24 11 rfl rfl (by decide) x2_68 (F_at 6 ((us a68 23 (F_put 6 (a68 23) x2_68 (F_at 6 (a68 17) x2_68))) 18) x2_68)) ⟨va_cnB 3 hts gX3_copy_X11_put_n30 rfl rfl rfl (hE.2.1 _ knX3_30) (hts (.initialized RX11) (by decide +kernel)) pX11_put ⟨Nat.le_of_ble_eq_true rfl, Nat.le_of_ble_eq_true rfl⟩, hts (.static yX11_put) (by decide +kernel), trivial⟩ (kW.preS hP (hE.kept hS hnA) hD hnA) rfl rfl hl.1 rfl (lv_room (Nat.le_of_ble_eq_true rfl)) dX3_copy_103 ⟨Nat.le_refl _, Nat.le_refl _⟩) hD hS (kSet_fst rfl) (fun H locs hP hD hS => ?_)
        have hP := kPe (es_wX24 ad ck f68 g68 (us a68 23 (F_put 6 (a68 23) x2_68 (F_at 6 (a68 17) x2_68))) (F_put 6 ((us a68 23 (F_put 6 (a68 23) x2_68 (F_at 6 (a68 17) x2_68))) 24) x2_68 (F_at 6 ((us a68 23 (F_put 6 (a68 23) x2_68 (F_at 6 (a68 17) x2_68))) 18) x2_68))) hP
        have hD := kDe (es_wX24 ad ck f68 g68 (us a68 23 (F_put 6 (a68 23) x2_68 (F_at 6 (a68 17) x2_68))) (F_put 6 ((us a68 23 (F_put 6 (a68 23) x2_68 (F_at 6 (a68 17) x2_68))) 24) x2_68 (F_at 6 ((us a68 23 (F_put 6 (a68 23) x2_68 (F_at 6 (a68 17) x2_68))) 18) x2_68))) hD
        refine lv_aload_n hx hb dX3_copy_106 rfl (lv_at hl 0 rfl) ?_
        refine va_get (D := D) (ci := 3) (v := .ref (ad 25)) (C := RX3) (T := TX3) (N := 10) hx hb hts hiX3 hown hK hP 4 rfl rfl 5 (by decide) hf27 (fun _ h9 => h9) rfl dX3_copy_107 ?_
        refine lv_iload_n hx hb dX3_copy_110 rfl (lv_at hl 2 rfl) ?_
        refine lv_aload_n hx hb dX3_copy_111 rfl (lv_at hl 1 rfl) ?_
        refine va_get (D := D) (ci := 3) (v := .ref (ad 19)) (C := RX3) (T := TX3) (N := 10) hx hb hts hiX3 hown hK hP 3 rfl rfl 5 (by decide) hf27 (fun _ h9 => h9) rfl dX3_copy_112 ?_
        refine lv_iload_n hx hb dX3_copy_115 rfl (lv_at hl 2 rfl) ?_
        refine kS_i (va_runSN (As := [.ref (ad 19), .int x2_68]) (rest := [.int x2_68, .ref (ad 25)]) ⟨hx, hb, hml, hown, hts⟩ (c_X11_at l hz D (tX ck) (wX ad ck f68 g68 (us (us a68 23 (F_put 6 (a68 23) x2_68 (F_at 6 (a68 17) x2_68))) 24 (F_put 6 ((us a68 23 (F_put 6 (a68 23) x2_68 (F_at 6 (a68 17) x2_68))) 24) x2_68 (F_at 6 ((us a68 23 (F_put 6 (a68 23) x2_68 (F_at 6 (a68 17) x2_68))) 18) x2_68)))) 19 6 rfl rfl (by decide) x2_68) ⟨va_cnB 2 hts gX3_copy_X11_at_n47 rfl rfl rfl (hE.2.1 _ knX3_47) (hts (.initialized RX11) (by decide +kernel)) pX11_at ⟨Nat.le_of_ble_eq_true rfl, Nat.le_of_ble_eq_true rfl⟩, hts (.static yX11_at) (by decide +kernel), trivial⟩ (kR.preS hP (hE.kept hS hnA)) rfl rfl hl.1 rfl (lv_room (Nat.le_of_ble_eq_true rfl)) dX3_copy_116 ⟨Nat.le_refl _, Nat.le_refl _⟩) ?_
        refine kS_w (va_runSN (As := [.ref (ad 25), .int x2_68, .int (F_at 6 ((us (us a68 23 (F_put 6 (a68 23) x2_68 (F_at 6 (a68 17) x2_68))) 24 (F_put 6 ((us a68 23 (F_put 6 (a68 23) x2_68 (F_at 6 (a68 17) x2_68))) 24) x2_68 (F_at 6 ((us a68 23 (F_put 6 (a68 23) x2_68 (F_at 6 (a68 17) x2_68))) 18) x2_68))) 19) x2_68)]) (rest := []) ⟨hx, hb, hml, hown, hts⟩ (c_X11_put l hz D (tX ck) (wX ad ck f68 g68 (us (us a68 23 (F_put 6 (a68 23) x2_68 (F_at 6 (a68 17) x2_68))) 24 (F_put 6 ((us a68 23 (F_put 6 (a68 23) x2_68 (F_at 6 (a68 17) x2_68))) 24) x2_68 (F_at 6 ((us a68 23 (F_put 6 (a68 23) x2_68 (F_at 6 (a68 17) x2_68))) 18) x2_68)))) 25 12 rfl rfl (by decide) x2_68 (F_at 6 ((us (us a68 23 (F_put 6 (a68 23) x2_68 (F_at 6 (a68 17) x2_68))) 24 (F_put 6 ((us a68 23 (F_put 6 (a68 23) x2_68 (F_at 6 (a68 17) x2_68))) 24) x2_68 (F_at 6 ((us a68 23 (F_put 6 (a68 23) x2_68 (F_at 6 (a68 17) x2_68))) 18) x2_68))) 19) x2_68)) ⟨va_cnB 3 hts gX3_copy_X11_put_n30 rfl rfl rfl (hE.2.1 _ knX3_30) (hts (.initialized RX11) (by decide +kernel)) pX11_put ⟨Nat.le_of_ble_eq_true rfl, Nat.le_of_ble_eq_true rfl⟩, hts (.static yX11_put) (by decide +kernel), trivial⟩ (kW.preS hP (hE.kept hS hnA) hD hnA) rfl rfl hl.1 rfl (lv_room (Nat.le_of_ble_eq_true rfl)) dX3_copy_119 ⟨Nat.le_refl _, Nat.le_refl _⟩) hD hS (kSet_fst rfl) (fun H locs hP hD hS => ?_)
        have hP := kPe (es_wX25 ad ck f68 g68 (us (us a68 23 (F_put 6 (a68 23) x2_68 (F_at 6 (a68 17) x2_68))) 24 (F_put 6 ((us a68 23 (F_put 6 (a68 23) x2_68 (F_at 6 (a68 17) x2_68))) 24) x2_68 (F_at 6 ((us a68 23 (F_put 6 (a68 23) x2_68 (F_at 6 (a68 17) x2_68))) 18) x2_68))) (F_put 6 ((us (us a68 23 (F_put 6 (a68 23) x2_68 (F_at 6 (a68 17) x2_68))) 24 (F_put 6 ((us a68 23 (F_put 6 (a68 23) x2_68 (F_at 6 (a68 17) x2_68))) 24) x2_68 (F_at 6 ((us a68 23 (F_put 6 (a68 23) x2_68 (F_at 6 (a68 17) x2_68))) 18) x2_68))) 25) x2_68 (F_at 6 ((us (us a68 23 (F_put 6 (a68 23) x2_68 (F_at 6 (a68 17) x2_68))) 24 (F_put 6 ((us a68 23 (F_put 6 (a68 23) x2_68 (F_at 6 (a68 17) x2_68))) 24) x2_68 (F_at 6 ((us a68 23 (F_put 6 (a68 23) x2_68 (F_at 6 (a68 17) x2_68))) 18) x2_68))) 19) x2_68))) hP
        have hD := kDe (es_wX25 ad ck f68 g68 (us (us a68 23 (F_put 6 (a68 23) x2_68 (F_at 6 (a68 17) x2_68))) 24 (F_put 6 ((us a68 23 (F_put 6 (a68 23) x2_68 (F_at 6 (a68 17) x2_68))) 24) x2_68 (F_at 6 ((us a68 23 (F_put 6 (a68 23) x2_68 (F_at 6 (a68 17) x2_68))) 18) x2_68))) (F_put 6 ((us (us a68 23 (F_put 6 (a68 23) x2_68 (F_at 6 (a68 17) x2_68))) 24 (F_put 6 ((us a68 23 (F_put 6 (a68 23) x2_68 (F_at 6 (a68 17) x2_68))) 24) x2_68 (F_at 6 ((us a68 23 (F_put 6 (a68 23) x2_68 (F_at 6 (a68 17) x2_68))) 18) x2_68))) 25) x2_68 (F_at 6 ((us (us a68 23 (F_put 6 (a68 23) x2_68 (F_at 6 (a68 17) x2_68))) 24 (F_put 6 ((us a68 23 (F_put 6 (a68 23) x2_68 (F_at 6 (a68 17) x2_68))) 24) x2_68 (F_at 6 ((us a68 23 (F_put 6 (a68 23) x2_68 (F_at 6 (a68 17) x2_68))) 18) x2_68))) 19) x2_68))) hD
        refine lv_iinc (v := (x2_68 + 1)) (lv' := [(2, .int (x2_68 + 1)), (0, .ref (ad 4)), (1, .ref (ad 3))]) hx hb dX3_copy_122 hl (k := 2) rfl rfl (by decide) rfl (fun ls hl => ?_)
        refine lv_goto (tgt := 68) hx hb dX3_copy_125 (by decide) ?_
        have hF := Option.some.inj hF
        subst hF
        obtain ⟨r, hF, hp⟩ := hp
        exact ih68 f68 g68 (us (us (us a68 23 (F_put 6 (a68 23) x2_68 (F_at 6 (a68 17) x2_68))) 24 (F_put 6 ((us a68 23 (F_put 6 (a68 23) x2_68 (F_at 6 (a68 17) x2_68))) 24) x2_68 (F_at 6 ((us a68 23 (F_put 6 (a68 23) x2_68 (F_at 6 (a68 17) x2_68))) 18) x2_68))) 25 (F_put 6 ((us (us a68 23 (F_put 6 (a68 23) x2_68 (F_at 6 (a68 17) x2_68))) 24 (F_put 6 ((us a68 23 (F_put 6 (a68 23) x2_68 (F_at 6 (a68 17) x2_68))) 24) x2_68 (F_at 6 ((us a68 23 (F_put 6 (a68 23) x2_68 (F_at 6 (a68 17) x2_68))) 18) x2_68))) 25) x2_68 (F_at 6 ((us (us a68 23 (F_put 6 (a68 23) x2_68 (F_at 6 (a68 17) x2_68))) 24 (F_put 6 ((us a68 23 (F_put 6 (a68 23) x2_68 (F_at 6 (a68 17) x2_68))) 24) x2_68 (F_at 6 ((us a68 23 (F_put 6 (a68 23) x2_68 (F_at 6 (a68 17) x2_68))) 18) x2_68))) 19) x2_68))) _ _ (x2_68 + 1) ls hP hD hS (lv_sub hl [1, 2, 0] rfl) r hF hp
  have hN_7 : ∀ (n7 : Nat) (f7 : Nat → Int32) (g7 : Nat → Int64) (a7 : Nat → Nat → Int32) (H : Heap) (locs : List Loc) (x2_7 : Int32) (ls : Array Slot), va_P D vwCl (wX ad ck f7 g7 a7) H → va_D (kAd (wX ad ck f0 g0 a0)) (wX ad ck f7 g7 a7) → va_S (kAd (wX ad ck f0 g0 a0)) s.heap H locs → lv_has ls 3 [(0, .ref (ad 4)), (1, .ref (ad 3)), (2, .int x2_7)] → ∀ r : ST, lpN (fun q7 : (Int32 × ST) => B_X3_copyK_7 q7.2.1 q7.2.2.1 q7.2.2.2 q7.1) n7 (x2_7, f7, g7, a7) = some r → (fun r => r = out) r → W p l e (headSpec wsX3_copy ({ frames := 1, cells := 0, slots := 0, locals := 22 })).room s m [.ref (ad 4), .ref (ad 3)].toArray below meth c H locs 0 0 (MQ below (kQ D vwCl none (wX ad ck f0 g0 a0) (wX ad ck out.1 out.2.1 out.2.2)) [.ref (ad 4), .ref (ad 3)].toArray s 0 0 (kAd (wX ad ck f0 g0 a0))) (F0 m 7 ls []) := by
    intro n7
    induction n7 with
    | zero => intro f7 g7 a7 H locs x2_7 ls hP hD hS hl r hF hp; exact (lp_z hF).elim
    | succ n7 ih7 =>
      intro f7 g7 a7 H locs x2_7 ls hP hD hS hl r hF hp
      obtain ⟨rs, hF, hp⟩ := lpN_K (P := (fun r => r = out)) hF hp
      unfold B_X3_copyK_7 at hF
      refine lv_iload_n hx hb dX3_copy_7 rfl (lv_at hl 2 rfl) ?_
      refine lv_iconst (v := 5) hx hb dX3_copy_8 (by decide) ?_
      refine lv_icmp_ge (tgt := 66) hx hb dX3_copy_9 (by decide) (fun hc1 => ?_) (fun hc1 => ?_)
      · have hF := it_p hc1 hF
        obtain ⟨r, hF1, hr0⟩ := mp_s hF
        clear hF
        subst hr0
        have hF := hF1
        clear hF1
        have hp : (fun r => r = out) r := hp
        refine lv_iconst (v := 0) hx hb dX3_copy_66 (by decide) ?_
        refine lv_istore_n (lv' := [(2, .int 0), (0, .ref (ad 4)), (1, .ref (ad 3))]) hx hb dX3_copy_67 rfl hl (by decide) rfl (fun ls hl => ?_)
        exact hN_68 kFu f7 g7 a7 _ _ 0 ls hP hD hS (lv_sub hl [1, 2, 0] rfl) _ hF hp
      · have hF := it_n hc1 hF
        refine lv_aload_n hx hb dX3_copy_12 rfl (lv_at hl 0 rfl) ?_
        refine va_get (D := D) (ci := 3) (v := .ref (ad 20)) (C := RX3) (T := TX3) (N := 10) hx hb hts hiX3 hown hK hP 4 rfl rfl 0 (by decide) hf9 (fun _ h9 => h9) rfl dX3_copy_13 ?_
        refine lv_iload_n hx hb dX3_copy_16 rfl (lv_at hl 2 rfl) ?_
        refine lv_aload_n hx hb dX3_copy_17 rfl (lv_at hl 1 rfl) ?_
        refine va_get (D := D) (ci := 3) (v := .ref (ad 14)) (C := RX3) (T := TX3) (N := 10) hx hb hts hiX3 hown hK hP 3 rfl rfl 0 (by decide) hf9 (fun _ h9 => h9) rfl dX3_copy_18 ?_
        refine lv_iload_n hx hb dX3_copy_21 rfl (lv_at hl 2 rfl) ?_
        refine kS_i (va_runSN (As := [.ref (ad 14), .int x2_7]) (rest := [.int x2_7, .ref (ad 20)]) ⟨hx, hb, hml, hown, hts⟩ (c_X11_at l hz D (tX ck) (wX ad ck f7 g7 a7) 14 1 rfl rfl (by decide) x2_7) ⟨va_cnB 2 hts gX3_copy_X11_at_n47 rfl rfl rfl (hE.2.1 _ knX3_47) (hts (.initialized RX11) (by decide +kernel)) pX11_at ⟨Nat.le_of_ble_eq_true rfl, Nat.le_of_ble_eq_true rfl⟩, hts (.static yX11_at) (by decide +kernel), trivial⟩ (kR.preS hP (hE.kept hS hnA)) rfl rfl hl.1 rfl (lv_room (Nat.le_of_ble_eq_true rfl)) dX3_copy_22 ⟨Nat.le_refl _, Nat.le_refl _⟩) ?_
        refine kS_w (va_runSN (As := [.ref (ad 20), .int x2_7, .int (F_at 5 (a7 14) x2_7)]) (rest := []) ⟨hx, hb, hml, hown, hts⟩ (c_X11_put l hz D (tX ck) (wX ad ck f7 g7 a7) 20 7 rfl rfl (by decide) x2_7 (F_at 5 (a7 14) x2_7)) ⟨va_cnB 3 hts gX3_copy_X11_put_n30 rfl rfl rfl (hE.2.1 _ knX3_30) (hts (.initialized RX11) (by decide +kernel)) pX11_put ⟨Nat.le_of_ble_eq_true rfl, Nat.le_of_ble_eq_true rfl⟩, hts (.static yX11_put) (by decide +kernel), trivial⟩ (kW.preS hP (hE.kept hS hnA) hD hnA) rfl rfl hl.1 rfl (lv_room (Nat.le_of_ble_eq_true rfl)) dX3_copy_25 ⟨Nat.le_refl _, Nat.le_refl _⟩) hD hS (kSet_fst rfl) (fun H locs hP hD hS => ?_)
        have hP := kPe (es_wX20 ad ck f7 g7 a7 (F_put 5 (a7 20) x2_7 (F_at 5 (a7 14) x2_7))) hP
        have hD := kDe (es_wX20 ad ck f7 g7 a7 (F_put 5 (a7 20) x2_7 (F_at 5 (a7 14) x2_7))) hD
        refine lv_aload_n hx hb dX3_copy_28 rfl (lv_at hl 0 rfl) ?_
        refine va_get (D := D) (ci := 3) (v := .ref (ad 21)) (C := RX3) (T := TX3) (N := 10) hx hb hts hiX3 hown hK hP 4 rfl rfl 1 (by decide) hf15 (fun _ h9 => h9) rfl dX3_copy_29 ?_
        refine lv_iload_n hx hb dX3_copy_32 rfl (lv_at hl 2 rfl) ?_
        refine lv_aload_n hx hb dX3_copy_33 rfl (lv_at hl 1 rfl) ?_
        refine va_get (D := D) (ci := 3) (v := .ref (ad 15)) (C := RX3) (T := TX3) (N := 10) hx hb hts hiX3 hown hK hP 3 rfl rfl 1 (by decide) hf15 (fun _ h9 => h9) rfl dX3_copy_34 ?_
        refine lv_iload_n hx hb dX3_copy_37 rfl (lv_at hl 2 rfl) ?_
        refine kS_i (va_runSN (As := [.ref (ad 15), .int x2_7]) (rest := [.int x2_7, .ref (ad 21)]) ⟨hx, hb, hml, hown, hts⟩ (c_X11_at l hz D (tX ck) (wX ad ck f7 g7 (us a7 20 (F_put 5 (a7 20) x2_7 (F_at 5 (a7 14) x2_7)))) 15 2 rfl rfl (by decide) x2_7) ⟨va_cnB 2 hts gX3_copy_X11_at_n47 rfl rfl rfl (hE.2.1 _ knX3_47) (hts (.initialized RX11) (by decide +kernel)) pX11_at ⟨Nat.le_of_ble_eq_true rfl, Nat.le_of_ble_eq_true rfl⟩, hts (.static yX11_at) (by decide +kernel), trivial⟩ (kR.preS hP (hE.kept hS hnA)) rfl rfl hl.1 rfl (lv_room (Nat.le_of_ble_eq_true rfl)) dX3_copy_38 ⟨Nat.le_refl _, Nat.le_refl _⟩) ?_
        refine kS_w (va_runSN (As := [.ref (ad 21), .int x2_7, .int (F_at 5 ((us a7 20 (F_put 5 (a7 20) x2_7 (F_at 5 (a7 14) x2_7))) 15) x2_7)]) (rest := []) ⟨hx, hb, hml, hown, hts⟩ (c_X11_put l hz D (tX ck) (wX ad ck f7 g7 (us a7 20 (F_put 5 (a7 20) x2_7 (F_at 5 (a7 14) x2_7)))) 21 8 rfl rfl (by decide) x2_7 (F_at 5 ((us a7 20 (F_put 5 (a7 20) x2_7 (F_at 5 (a7 14) x2_7))) 15) x2_7)) ⟨va_cnB 3 hts gX3_copy_X11_put_n30 rfl rfl rfl (hE.2.1 _ knX3_30) (hts (.initialized RX11) (by decide +kernel)) pX11_put ⟨Nat.le_of_ble_eq_true rfl, Nat.le_of_ble_eq_true rfl⟩, hts (.static yX11_put) (by decide +kernel), trivial⟩ (kW.preS hP (hE.kept hS hnA) hD hnA) rfl rfl hl.1 rfl (lv_room (Nat.le_of_ble_eq_true rfl)) dX3_copy_41 ⟨Nat.le_refl _, Nat.le_refl _⟩) hD hS (kSet_fst rfl) (fun H locs hP hD hS => ?_)
        have hP := kPe (es_wX21 ad ck f7 g7 (us a7 20 (F_put 5 (a7 20) x2_7 (F_at 5 (a7 14) x2_7))) (F_put 5 ((us a7 20 (F_put 5 (a7 20) x2_7 (F_at 5 (a7 14) x2_7))) 21) x2_7 (F_at 5 ((us a7 20 (F_put 5 (a7 20) x2_7 (F_at 5 (a7 14) x2_7))) 15) x2_7))) hP
        have hD := kDe (es_wX21 ad ck f7 g7 (us a7 20 (F_put 5 (a7 20) x2_7 (F_at 5 (a7 14) x2_7))) (F_put 5 ((us a7 20 (F_put 5 (a7 20) x2_7 (F_at 5 (a7 14) x2_7))) 21) x2_7 (F_at 5 ((us a7 20 (F_put 5 (a7 20) x2_7 (F_at 5 (a7 14) x2_7))) 15) x2_7))) hD
        refine lv_aload_n hx hb dX3_copy_44 rfl (lv_at hl 0 rfl) ?_
        refine va_get (D := D) (ci := 3) (v := .ref (ad 22)) (C := RX3) (T := TX3) (N := 10) hx hb hts hiX3 hown hK hP 4 rfl rfl 2 (by decide) hf18 (fun _ h9 => h9) rfl dX3_copy_45 ?_
        refine lv_iload_n hx hb dX3_copy_48 rfl (lv_at hl 2 rfl) ?_
        refine lv_aload_n hx hb dX3_copy_49 rfl (lv_at hl 1 rfl) ?_
        refine va_get (D := D) (ci := 3) (v := .ref (ad 16)) (C := RX3) (T := TX3) (N := 10) hx hb hts hiX3 hown hK hP 3 rfl rfl 2 (by decide) hf18 (fun _ h9 => h9) rfl dX3_copy_50 ?_
        refine lv_iload_n hx hb dX3_copy_53 rfl (lv_at hl 2 rfl) ?_
        refine kS_i (va_runSN (As := [.ref (ad 16), .int x2_7]) (rest := [.int x2_7, .ref (ad 22)]) ⟨hx, hb, hml, hown, hts⟩ (c_X11_at l hz D (tX ck) (wX ad ck f7 g7 (us (us a7 20 (F_put 5 (a7 20) x2_7 (F_at 5 (a7 14) x2_7))) 21 (F_put 5 ((us a7 20 (F_put 5 (a7 20) x2_7 (F_at 5 (a7 14) x2_7))) 21) x2_7 (F_at 5 ((us a7 20 (F_put 5 (a7 20) x2_7 (F_at 5 (a7 14) x2_7))) 15) x2_7)))) 16 3 rfl rfl (by decide) x2_7) ⟨va_cnB 2 hts gX3_copy_X11_at_n47 rfl rfl rfl (hE.2.1 _ knX3_47) (hts (.initialized RX11) (by decide +kernel)) pX11_at ⟨Nat.le_of_ble_eq_true rfl, Nat.le_of_ble_eq_true rfl⟩, hts (.static yX11_at) (by decide +kernel), trivial⟩ (kR.preS hP (hE.kept hS hnA)) rfl rfl hl.1 rfl (lv_room (Nat.le_of_ble_eq_true rfl)) dX3_copy_54 ⟨Nat.le_refl _, Nat.le_refl _⟩) ?_
        refine kS_w (va_runSN (As := [.ref (ad 22), .int x2_7, .int (F_at 5 ((us (us a7 20 (F_put 5 (a7 20) x2_7 (F_at 5 (a7 14) x2_7))) 21 (F_put 5 ((us a7 20 (F_put 5 (a7 20) x2_7 (F_at 5 (a7 14) x2_7))) 21) x2_7 (F_at 5 ((us a7 20 (F_put 5 (a7 20) x2_7 (F_at 5 (a7 14) x2_7))) 15) x2_7))) 16) x2_7)]) (rest := []) ⟨hx, hb, hml, hown, hts⟩ (c_X11_put l hz D (tX ck) (wX ad ck f7 g7 (us (us a7 20 (F_put 5 (a7 20) x2_7 (F_at 5 (a7 14) x2_7))) 21 (F_put 5 ((us a7 20 (F_put 5 (a7 20) x2_7 (F_at 5 (a7 14) x2_7))) 21) x2_7 (F_at 5 ((us a7 20 (F_put 5 (a7 20) x2_7 (F_at 5 (a7 14) x2_7))) 15) x2_7)))) 22 9 rfl rfl (by decide) x2_7 (F_at 5 ((us (us a7 20 (F_put 5 (a7 20) x2_7 (F_at 5 (a7 14) x2_7))) 21 (F_put 5 ((us a7 20 (F_put 5 (a7 20) x2_7 (F_at 5 (a7 14) x2_7))) 21) x2_7 (F_at 5 ((us a7 20 (F_put 5 (a7 20) x2_7 (F_at 5 (a7 14) x2_7))) 15) x2_7))) 16) x2_7)) ⟨va_cnB 3 hts gX3_copy_X11_put_n30 rfl rfl rfl (hE.2.1 _ knX3_30) (hts (.initialized RX11) (by decide +kernel)) pX11_put ⟨Nat.le_of_ble_eq_true rfl, Nat.le_of_ble_eq_true rfl⟩, hts (.static yX11_put) (by decide +kernel), trivial⟩ (kW.preS hP (hE.kept hS hnA) hD hnA) rfl rfl hl.1 rfl (lv_room (Nat.le_of_ble_eq_true rfl)) dX3_copy_57 ⟨Nat.le_refl _, Nat.le_refl _⟩) hD hS (kSet_fst rfl) (fun H locs hP hD hS => ?_)
        have hP := kPe (es_wX22 ad ck f7 g7 (us (us a7 20 (F_put 5 (a7 20) x2_7 (F_at 5 (a7 14) x2_7))) 21 (F_put 5 ((us a7 20 (F_put 5 (a7 20) x2_7 (F_at 5 (a7 14) x2_7))) 21) x2_7 (F_at 5 ((us a7 20 (F_put 5 (a7 20) x2_7 (F_at 5 (a7 14) x2_7))) 15) x2_7))) (F_put 5 ((us (us a7 20 (F_put 5 (a7 20) x2_7 (F_at 5 (a7 14) x2_7))) 21 (F_put 5 ((us a7 20 (F_put 5 (a7 20) x2_7 (F_at 5 (a7 14) x2_7))) 21) x2_7 (F_at 5 ((us a7 20 (F_put 5 (a7 20) x2_7 (F_at 5 (a7 14) x2_7))) 15) x2_7))) 22) x2_7 (F_at 5 ((us (us a7 20 (F_put 5 (a7 20) x2_7 (F_at 5 (a7 14) x2_7))) 21 (F_put 5 ((us a7 20 (F_put 5 (a7 20) x2_7 (F_at 5 (a7 14) x2_7))) 21) x2_7 (F_at 5 ((us a7 20 (F_put 5 (a7 20) x2_7 (F_at 5 (a7 14) x2_7))) 15) x2_7))) 16) x2_7))) hP
        have hD := kDe (es_wX22 ad ck f7 g7 (us (us a7 20 (F_put 5 (a7 20) x2_7 (F_at 5 (a7 14) x2_7))) 21 (F_put 5 ((us a7 20 (F_put 5 (a7 20) x2_7 (F_at 5 (a7 14) x2_7))) 21) x2_7 (F_at 5 ((us a7 20 (F_put 5 (a7 20) x2_7 (F_at 5 (a7 14) x2_7))) 15) x2_7))) (F_put 5 ((us (us a7 20 (F_put 5 (a7 20) x2_7 (F_at 5 (a7 14) x2_7))) 21 (F_put 5 ((us a7 20 (F_put 5 (a7 20) x2_7 (F_at 5 (a7 14) x2_7))) 21) x2_7 (F_at 5 ((us a7 20 (F_put 5 (a7 20) x2_7 (F_at 5 (a7 14) x2_7))) 15) x2_7))) 22) x2_7 (F_at 5 ((us (us a7 20 (F_put 5 (a7 20) x2_7 (F_at 5 (a7 14) x2_7))) 21 (F_put 5 ((us a7 20 (F_put 5 (a7 20) x2_7 (F_at 5 (a7 14) x2_7))) 21) x2_7 (F_at 5 ((us a7 20 (F_put 5 (a7 20) x2_7 (F_at 5 (a7 14) x2_7))) 15) x2_7))) 16) x2_7))) hD
        refine lv_iinc (v := (x2_7 + 1)) (lv' := [(2, .int (x2_7 + 1)), (0, .ref (ad 4)), (1, .ref (ad 3))]) hx hb dX3_copy_60 hl (k := 2) rfl rfl (by decide) rfl (fun ls hl => ?_)
        refine lv_goto (tgt := 7) hx hb dX3_copy_63 (by decide) ?_
        have hF := Option.some.inj hF
        subst hF
        obtain ⟨r, hF, hp⟩ := hp
        exact ih7 f7 g7 (us (us (us a7 20 (F_put 5 (a7 20) x2_7 (F_at 5 (a7 14) x2_7))) 21 (F_put 5 ((us a7 20 (F_put 5 (a7 20) x2_7 (F_at 5 (a7 14) x2_7))) 21) x2_7 (F_at 5 ((us a7 20 (F_put 5 (a7 20) x2_7 (F_at 5 (a7 14) x2_7))) 15) x2_7))) 22 (F_put 5 ((us (us a7 20 (F_put 5 (a7 20) x2_7 (F_at 5 (a7 14) x2_7))) 21 (F_put 5 ((us a7 20 (F_put 5 (a7 20) x2_7 (F_at 5 (a7 14) x2_7))) 21) x2_7 (F_at 5 ((us a7 20 (F_put 5 (a7 20) x2_7 (F_at 5 (a7 14) x2_7))) 15) x2_7))) 22) x2_7 (F_at 5 ((us (us a7 20 (F_put 5 (a7 20) x2_7 (F_at 5 (a7 14) x2_7))) 21 (F_put 5 ((us a7 20 (F_put 5 (a7 20) x2_7 (F_at 5 (a7 14) x2_7))) 21) x2_7 (F_at 5 ((us a7 20 (F_put 5 (a7 20) x2_7 (F_at 5 (a7 14) x2_7))) 15) x2_7))) 16) x2_7))) _ _ (x2_7 + 1) ls hP hD hS (lv_sub hl [1, 2, 0] rfl) r hF hp
  have hl := lv_entry ([.ref (ad 4), .ref (ad 3)]) (n := 3) (Nat.le_of_ble_eq_true rfl)
  rw [lg_entry_eq]
  generalize (lg_sl ([.ref (ad 4), .ref (ad 3)]) ++ List.replicate (3 - (lg_sl ([.ref (ad 4), .ref (ad 3)])).length) Slot.unset).toArray = ls at hl ⊢
  have hl : lv_has ls 3 [(0, .ref (ad 4)), (1, .ref (ad 3))] := hl
  obtain ⟨r, hF, hp⟩ : ∃ r, F_X3_copyK f0 g0 a0 = some r ∧ r = out := ⟨out, hF, rfl⟩
  unfold F_X3_copyK at hF
  refine lv_aload_n hx hb dX3_copy_0 rfl (lv_at hl 1 rfl) ?_
  refine lv_ifnonnull (tgt := 5) hx hb dX3_copy_1 (by decide) ?_
  refine lv_iconst (v := 0) hx hb dX3_copy_5 (by decide) ?_
  refine lv_istore_n (lv' := [(2, .int 0), (0, .ref (ad 4)), (1, .ref (ad 3))]) hx hb dX3_copy_6 rfl hl (by decide) rfl (fun ls hl => ?_)
  exact hN_7 kFu f0 g0 a0 _ _ 0 ls hP hD hS (lv_sub hl [1, 2, 0] rfl) _ hF hp

def B_X3_copyH_68 (f68 : Nat → Int32) (g68 : Nat → Int64) (a68 : Nat → Nat → Int32) (x2_68 : Int32) : Option ((Int32 × ST) ⊕ ST) := if 6 ≤ x2_68 then Option.map Sum.inr (some ((upd (upd (upd (upd f68 6 (f68 10)) 7 ((upd f68 6 (f68 10)) 11)) 8 ((upd (upd f68 6 (f68 10)) 7 ((upd f68 6 (f68 10)) 11)) 12)) 9 ((upd (upd (upd f68 6 (f68 10)) 7 ((upd f68 6 (f68 10)) 11)) 8 ((upd (upd f68 6 (f68 10)) 7 ((upd f68 6 (f68 10)) 11)) 12)) 13)), g68, a68)) else some (.inl ((x2_68 + 1), f68, g68, (us (us (us a68 17 (F_put 6 (a68 17) x2_68 (F_at 6 (a68 23) x2_68))) 18 (F_put 6 ((us a68 17 (F_put 6 (a68 17) x2_68 (F_at 6 (a68 23) x2_68))) 18) x2_68 (F_at 6 ((us a68 17 (F_put 6 (a68 17) x2_68 (F_at 6 (a68 23) x2_68))) 24) x2_68))) 19 (F_put 6 ((us (us a68 17 (F_put 6 (a68 17) x2_68 (F_at 6 (a68 23) x2_68))) 18 (F_put 6 ((us a68 17 (F_put 6 (a68 17) x2_68 (F_at 6 (a68 23) x2_68))) 18) x2_68 (F_at 6 ((us a68 17 (F_put 6 (a68 17) x2_68 (F_at 6 (a68 23) x2_68))) 24) x2_68))) 19) x2_68 (F_at 6 ((us (us a68 17 (F_put 6 (a68 17) x2_68 (F_at 6 (a68 23) x2_68))) 18 (F_put 6 ((us a68 17 (F_put 6 (a68 17) x2_68 (F_at 6 (a68 23) x2_68))) 18) x2_68 (F_at 6 ((us a68 17 (F_put 6 (a68 17) x2_68 (F_at 6 (a68 23) x2_68))) 24) x2_68))) 25) x2_68)))))
def N_X3_copyH_68 (f68 : Nat → Int32) (g68 : Nat → Int64) (a68 : Nat → Nat → Int32) (x2_68 : Int32) : Option ST := lpN (fun q68 : (Int32 × ST) => B_X3_copyH_68 q68.2.1 q68.2.2.1 q68.2.2.2 q68.1) kFu (x2_68, f68, g68, a68)
def B_X3_copyH_7 (f7 : Nat → Int32) (g7 : Nat → Int64) (a7 : Nat → Nat → Int32) (x2_7 : Int32) : Option ((Int32 × ST) ⊕ ST) := if 5 ≤ x2_7 then Option.map Sum.inr (N_X3_copyH_68 f7 g7 a7 0) else some (.inl ((x2_7 + 1), f7, g7, (us (us (us a7 14 (F_put 5 (a7 14) x2_7 (F_at 5 (a7 20) x2_7))) 15 (F_put 5 ((us a7 14 (F_put 5 (a7 14) x2_7 (F_at 5 (a7 20) x2_7))) 15) x2_7 (F_at 5 ((us a7 14 (F_put 5 (a7 14) x2_7 (F_at 5 (a7 20) x2_7))) 21) x2_7))) 16 (F_put 5 ((us (us a7 14 (F_put 5 (a7 14) x2_7 (F_at 5 (a7 20) x2_7))) 15 (F_put 5 ((us a7 14 (F_put 5 (a7 14) x2_7 (F_at 5 (a7 20) x2_7))) 15) x2_7 (F_at 5 ((us a7 14 (F_put 5 (a7 14) x2_7 (F_at 5 (a7 20) x2_7))) 21) x2_7))) 16) x2_7 (F_at 5 ((us (us a7 14 (F_put 5 (a7 14) x2_7 (F_at 5 (a7 20) x2_7))) 15 (F_put 5 ((us a7 14 (F_put 5 (a7 14) x2_7 (F_at 5 (a7 20) x2_7))) 15) x2_7 (F_at 5 ((us a7 14 (F_put 5 (a7 14) x2_7 (F_at 5 (a7 20) x2_7))) 21) x2_7))) 22) x2_7)))))
def N_X3_copyH_7 (f7 : Nat → Int32) (g7 : Nat → Int64) (a7 : Nat → Nat → Int32) (x2_7 : Int32) : Option ST := lpN (fun q7 : (Int32 × ST) => B_X3_copyH_7 q7.2.1 q7.2.2.1 q7.2.2.2 q7.1) kFu (x2_7, f7, g7, a7)
def F_X3_copyH (f0 : Nat → Int32) (g0 : Nat → Int64) (a0 : Nat → Nat → Int32) : Option ST := N_X3_copyH_7 f0 g0 a0 0
set_option maxHeartbeats 4000000 in
set_option maxRecDepth 100000 in
theorem c_X3_copyH (l : Launch) (hz : Nat) (D : va_G) (ad : Nat → Nat) (ck : Nat → ClassId) (f0 : Nat → Int32) (g0 : Nat → Int64) (a0 : Nat → Nat → Int32) (out : ST) (hF : F_X3_copyH f0 g0 a0 = some out) : Met l yX3_copy wsX3_copy ({ frames := 1, cells := 0, slots := 0, locals := 22 }) (kW hz D vwCl (tX ck) (wX ad ck f0 g0 a0) [.ref (ad 3), .ref (ad 4)]) (kQ D vwCl none (wX ad ck f0 g0 a0) (wX ad ck out.1 out.2.1 out.2.2)) 0 0 (kAd (wX ad ck f0 g0 a0)) := by
  refine Met.ofW (cc := cX3_copy) (maxL := 3) (ret := none) (by decide) rfl ?_
  intro p e s m args below meth c s₁ B hml hv
  obtain ⟨rfl, hP, hE, hD0⟩ := hv
  have hx := B.exec
  have hb := B.bytes
  have hr := B.returns
  have hts := atoms_spec (ws := wsX3_copy) B.pre
  have hown : s.vm.findClass RX3 = some m.cls := findClass_of_methodNamed B.named
  have hlocks := B.notSynchronized
  have hK := hE.1
  have hnA := kAd_up hD0
  have hD := kD_self hD0
  have hS : va_S (kAd (wX ad ck f0 g0 a0)) s.heap s.heap [] := va_S.rf
  have hiX3 : ∀ w ∈ u_ws RX3 TX3 10, w ∈ wsX3_copy := by decide +kernel
  have hf9 := hts (.fieldLink RX3 9 "SpeltByFriends$Ledger" "firstHolder" "[I") (by decide +kernel)
  have hf15 := hts (.fieldLink RX3 15 "SpeltByFriends$Ledger" "lastHolder" "[I") (by decide +kernel)
  have hf18 := hts (.fieldLink RX3 18 "SpeltByFriends$Ledger" "foes" "[I") (by decide +kernel)
  have hf21 := hts (.fieldLink RX3 21 "SpeltByFriends$Ledger" "heardOf" "[I") (by decide +kernel)
  have hf24 := hts (.fieldLink RX3 24 "SpeltByFriends$Ledger" "heardIn" "[I") (by decide +kernel)
  have hf27 := hts (.fieldLink RX3 27 "SpeltByFriends$Ledger" "heardYes" "[I") (by decide +kernel)
  have hf34 := hts (.fieldLink RX3 34 "SpeltByFriends$Ledger" "rooms" "I") (by decide +kernel)
  have hf38 := hts (.fieldLink RX3 38 "SpeltByFriends$Ledger" "heard" "I") (by decide +kernel)
  have hf41 := hts (.fieldLink RX3 41 "SpeltByFriends$Ledger" "went" "I") (by decide +kernel)
  have hf44 := hts (.fieldLink RX3 44 "SpeltByFriends$Ledger" "sold" "I") (by decide +kernel)
  have hN_68 : ∀ (n68 : Nat) (f68 : Nat → Int32) (g68 : Nat → Int64) (a68 : Nat → Nat → Int32) (H : Heap) (locs : List Loc) (x2_68 : Int32) (ls : Array Slot), va_P D vwCl (wX ad ck f68 g68 a68) H → va_D (kAd (wX ad ck f0 g0 a0)) (wX ad ck f68 g68 a68) → va_S (kAd (wX ad ck f0 g0 a0)) s.heap H locs → lv_has ls 3 [(0, .ref (ad 3)), (1, .ref (ad 4)), (2, .int x2_68)] → ∀ r : ST, lpN (fun q68 : (Int32 × ST) => B_X3_copyH_68 q68.2.1 q68.2.2.1 q68.2.2.2 q68.1) n68 (x2_68, f68, g68, a68) = some r → (fun r => r = out) r → W p l e (headSpec wsX3_copy ({ frames := 1, cells := 0, slots := 0, locals := 22 })).room s m [.ref (ad 3), .ref (ad 4)].toArray below meth c H locs 0 0 (MQ below (kQ D vwCl none (wX ad ck f0 g0 a0) (wX ad ck out.1 out.2.1 out.2.2)) [.ref (ad 3), .ref (ad 4)].toArray s 0 0 (kAd (wX ad ck f0 g0 a0))) (F0 m 68 ls []) := by
    intro n68
    induction n68 with
    | zero => intro f68 g68 a68 H locs x2_68 ls hP hD hS hl r hF hp; exact (lp_z hF).elim
    | succ n68 ih68 =>
      intro f68 g68 a68 H locs x2_68 ls hP hD hS hl r hF hp
      obtain ⟨rs, hF, hp⟩ := lpN_K (P := (fun r => r = out)) hF hp
      unfold B_X3_copyH_68 at hF
      refine lv_iload_n hx hb dX3_copy_68 rfl (lv_at hl 2 rfl) ?_
      refine lv_bipush (v := 6) hx hb dX3_copy_69 (by decide) ?_
      refine lv_icmp_ge (tgt := 128) hx hb dX3_copy_71 (by decide) (fun hc2 => ?_) (fun hc2 => ?_)
      · have hF := it_p hc2 hF
        obtain ⟨r, hF1, hr0⟩ := mp_s hF
        clear hF
        subst hr0
        have hF := hF1
        clear hF1
        have hp : (fun r => r = out) r := hp
        refine lv_aload_n hx hb dX3_copy_128 rfl (lv_at hl 0 rfl) ?_
        refine lv_aload_n hx hb dX3_copy_129 rfl (lv_at hl 1 rfl) ?_
        refine va_get (D := D) (ci := 3) (v := .int (f68 10)) (C := RX3) (T := TX3) (N := 10) hx hb hts hiX3 hown hK hP 4 rfl rfl 6 (by decide) hf34 (fun _ h9 => h9) rfl dX3_copy_130 ?_
        refine va_put (D := D) (ci := 3) (v := .int (f68 10)) (ty := .int) (C := RX3) (T := TX3) (N := 10) hx hb hts hiX3 tyX3 tyX3_ok nmX3 hown hK hP hD hS 3 rfl rfl 6 (by decide) hf34 (fun _ h9 => h9) rfl (tyX3_ok 6 (by decide)) rfl rfl (Nat.le_of_ble_eq_true rfl) dX3_copy_133 (fun H locs hP hD hS => ?_)
        have hP := kPe (ef_wX3_6 ad ck f68 g68 a68 (f68 10)) hP
        have hD := kDe (ef_wX3_6 ad ck f68 g68 a68 (f68 10)) hD
        refine lv_aload_n hx hb dX3_copy_136 rfl (lv_at hl 0 rfl) ?_
        refine lv_aload_n hx hb dX3_copy_137 rfl (lv_at hl 1 rfl) ?_
        refine va_get (D := D) (ci := 3) (v := .int ((upd f68 6 (f68 10)) 11)) (C := RX3) (T := TX3) (N := 10) hx hb hts hiX3 hown hK hP 4 rfl rfl 7 (by decide) hf38 (fun _ h9 => h9) rfl dX3_copy_138 ?_
        refine va_put (D := D) (ci := 3) (v := .int ((upd f68 6 (f68 10)) 11)) (ty := .int) (C := RX3) (T := TX3) (N := 10) hx hb hts hiX3 tyX3 tyX3_ok nmX3 hown hK hP hD hS 3 rfl rfl 7 (by decide) hf38 (fun _ h9 => h9) rfl (tyX3_ok 7 (by decide)) rfl rfl (Nat.le_of_ble_eq_true rfl) dX3_copy_141 (fun H locs hP hD hS => ?_)
        have hP := kPe (ef_wX3_7 ad ck (upd f68 6 (f68 10)) g68 a68 ((upd f68 6 (f68 10)) 11)) hP
        have hD := kDe (ef_wX3_7 ad ck (upd f68 6 (f68 10)) g68 a68 ((upd f68 6 (f68 10)) 11)) hD
        refine lv_aload_n hx hb dX3_copy_144 rfl (lv_at hl 0 rfl) ?_
        refine lv_aload_n hx hb dX3_copy_145 rfl (lv_at hl 1 rfl) ?_
        refine va_get (D := D) (ci := 3) (v := .int ((upd (upd f68 6 (f68 10)) 7 ((upd f68 6 (f68 10)) 11)) 12)) (C := RX3) (T := TX3) (N := 10) hx hb hts hiX3 hown hK hP 4 rfl rfl 8 (by decide) hf41 (fun _ h9 => h9) rfl dX3_copy_146 ?_
        refine va_put (D := D) (ci := 3) (v := .int ((upd (upd f68 6 (f68 10)) 7 ((upd f68 6 (f68 10)) 11)) 12)) (ty := .int) (C := RX3) (T := TX3) (N := 10) hx hb hts hiX3 tyX3 tyX3_ok nmX3 hown hK hP hD hS 3 rfl rfl 8 (by decide) hf41 (fun _ h9 => h9) rfl (tyX3_ok 8 (by decide)) rfl rfl (Nat.le_of_ble_eq_true rfl) dX3_copy_149 (fun H locs hP hD hS => ?_)
        have hP := kPe (ef_wX3_8 ad ck (upd (upd f68 6 (f68 10)) 7 ((upd f68 6 (f68 10)) 11)) g68 a68 ((upd (upd f68 6 (f68 10)) 7 ((upd f68 6 (f68 10)) 11)) 12)) hP
        have hD := kDe (ef_wX3_8 ad ck (upd (upd f68 6 (f68 10)) 7 ((upd f68 6 (f68 10)) 11)) g68 a68 ((upd (upd f68 6 (f68 10)) 7 ((upd f68 6 (f68 10)) 11)) 12)) hD
        refine lv_aload_n hx hb dX3_copy_152 rfl (lv_at hl 0 rfl) ?_
        refine lv_aload_n hx hb dX3_copy_153 rfl (lv_at hl 1 rfl) ?_
        refine va_get (D := D) (ci := 3) (v := .int ((upd (upd (upd f68 6 (f68 10)) 7 ((upd f68 6 (f68 10)) 11)) 8 ((upd (upd f68 6 (f68 10)) 7 ((upd f68 6 (f68 10)) 11)) 12)) 13)) (C := RX3) (T := TX3) (N := 10) hx hb hts hiX3 hown hK hP 4 rfl rfl 9 (by decide) hf44 (fun _ h9 => h9) rfl dX3_copy_154 ?_
        refine va_put (D := D) (ci := 3) (v := .int ((upd (upd (upd f68 6 (f68 10)) 7 ((upd f68 6 (f68 10)) 11)) 8 ((upd (upd f68 6 (f68 10)) 7 ((upd f68 6 (f68 10)) 11)) 12)) 13)) (ty := .int) (C := RX3) (T := TX3) (N := 10) hx hb hts hiX3 tyX3 tyX3_ok nmX3 hown hK hP hD hS 3 rfl rfl 9 (by decide) hf44 (fun _ h9 => h9) rfl (tyX3_ok 9 (by decide)) rfl rfl (Nat.le_of_ble_eq_true rfl) dX3_copy_157 (fun H locs hP hD hS => ?_)
        have hP := kPe (ef_wX3_9 ad ck (upd (upd (upd f68 6 (f68 10)) 7 ((upd f68 6 (f68 10)) 11)) 8 ((upd (upd f68 6 (f68 10)) 7 ((upd f68 6 (f68 10)) 11)) 12)) g68 a68 ((upd (upd (upd f68 6 (f68 10)) 7 ((upd f68 6 (f68 10)) 11)) 8 ((upd (upd f68 6 (f68 10)) 7 ((upd f68 6 (f68 10)) 11)) 12)) 13)) hP
        have hD := kDe (ef_wX3_9 ad ck (upd (upd (upd f68 6 (f68 10)) 7 ((upd f68 6 (f68 10)) 11)) 8 ((upd (upd f68 6 (f68 10)) 7 ((upd f68 6 (f68 10)) 11)) 12)) g68 a68 ((upd (upd (upd f68 6 (f68 10)) 7 ((upd f68 6 (f68 10)) 11)) 8 ((upd (upd f68 6 (f68 10)) 7 ((upd f68 6 (f68 10)) 11)) 12)) 13)) hD
        have hF := (Option.some.inj hF).trans hp
        subst hF
        exact W.vret hx hb hr (fun t ht hW => ⟨rfl, by rw [ht]; exact hP, hS.F ht⟩) hS.2.2 dX3_copy_160
      · have hF := it_n hc2 hF
        refine lv_aload_n hx hb dX3_copy_74 rfl (lv_at hl 0 rfl) ?_
        refine va_get (D := D) (ci := 3) (v := .ref (ad 17)) (C := RX3) (T := TX3) (N := 10) hx hb hts hiX3 hown hK hP 3 rfl rfl 3 (by decide) hf21 (fun _ h9 => h9) rfl dX3_copy_75 ?_
        refine lv_iload_n hx hb dX3_copy_78 rfl (lv_at hl 2 rfl) ?_
        refine lv_aload_n hx hb dX3_copy_79 rfl (lv_at hl 1 rfl) ?_
        refine va_get (D := D) (ci := 3) (v := .ref (ad 23)) (C := RX3) (T := TX3) (N := 10) hx hb hts hiX3 hown hK hP 4 rfl rfl 3 (by decide) hf21 (fun _ h9 => h9) rfl dX3_copy_80 ?_
        refine lv_iload_n hx hb dX3_copy_83 rfl (lv_at hl 2 rfl) ?_
        refine kS_i (va_runSN (As := [.ref (ad 23), .int x2_68]) (rest := [.int x2_68, .ref (ad 17)]) ⟨hx, hb, hml, hown, hts⟩ (c_X11_at l hz D (tX ck) (wX ad ck f68 g68 a68) 23 10 rfl rfl (by decide) x2_68) ⟨va_cnB 2 hts gX3_copy_X11_at_n47 rfl rfl rfl (hE.2.1 _ knX3_47) (hts (.initialized RX11) (by decide +kernel)) pX11_at ⟨Nat.le_of_ble_eq_true rfl, Nat.le_of_ble_eq_true rfl⟩, hts (.static yX11_at) (by decide +kernel), trivial⟩ (kR.preS hP (hE.kept hS hnA)) rfl rfl hl.1 rfl (lv_room (Nat.le_of_ble_eq_true rfl)) dX3_copy_84 ⟨Nat.le_refl _, Nat.le_refl _⟩) ?_
        refine kS_w (va_runSN (As := [.ref (ad 17), .int x2_68, .int (F_at 6 (a68 23) x2_68)]) (rest := []) ⟨hx, hb, hml, hown, hts⟩ (c_X11_put l hz D (tX ck) (wX ad ck f68 g68 a68) 17 4 rfl rfl (by decide) x2_68 (F_at 6 (a68 23) x2_68)) ⟨va_cnB 3 hts gX3_copy_X11_put_n30 rfl rfl rfl (hE.2.1 _ knX3_30) (hts (.initialized RX11) (by decide +kernel)) pX11_put ⟨Nat.le_of_ble_eq_true rfl, Nat.le_of_ble_eq_true rfl⟩, hts (.static yX11_put) (by decide +kernel), trivial⟩ (kW.preS hP (hE.kept hS hnA) hD hnA) rfl rfl hl.1 rfl (lv_room (Nat.le_of_ble_eq_true rfl)) dX3_copy_87 ⟨Nat.le_refl _, Nat.le_refl _⟩) hD hS (kSet_fst rfl) (fun H locs hP hD hS => ?_)
        have hP := kPe (es_wX17 ad ck f68 g68 a68 (F_put 6 (a68 17) x2_68 (F_at 6 (a68 23) x2_68))) hP
        have hD := kDe (es_wX17 ad ck f68 g68 a68 (F_put 6 (a68 17) x2_68 (F_at 6 (a68 23) x2_68))) hD
        refine lv_aload_n hx hb dX3_copy_90 rfl (lv_at hl 0 rfl) ?_
        refine va_get (D := D) (ci := 3) (v := .ref (ad 18)) (C := RX3) (T := TX3) (N := 10) hx hb hts hiX3 hown hK hP 3 rfl rfl 4 (by decide) hf24 (fun _ h9 => h9) rfl dX3_copy_91 ?_
        refine lv_iload_n hx hb dX3_copy_94 rfl (lv_at hl 2 rfl) ?_
        refine lv_aload_n hx hb dX3_copy_95 rfl (lv_at hl 1 rfl) ?_
        refine va_get (D := D) (ci := 3) (v := .ref (ad 24)) (C := RX3) (T := TX3) (N := 10) hx hb hts hiX3 hown hK hP 4 rfl rfl 4 (by decide) hf24 (fun _ h9 => h9) rfl dX3_copy_96 ?_
        refine lv_iload_n hx hb dX3_copy_99 rfl (lv_at hl 2 rfl) ?_
        refine kS_i (va_runSN (As := [.ref (ad 24), .int x2_68]) (rest := [.int x2_68, .ref (ad 18)]) ⟨hx, hb, hml, hown, hts⟩ (c_X11_at l hz D (tX ck) (wX ad ck f68 g68 (us a68 17 (F_put 6 (a68 17) x2_68 (F_at 6 (a68 23) x2_68)))) 24 11 rfl rfl (by decide) x2_68) ⟨va_cnB 2 hts gX3_copy_X11_at_n47 rfl rfl rfl (hE.2.1 _ knX3_47) (hts (.initialized RX11) (by decide +kernel)) pX11_at ⟨Nat.le_of_ble_eq_true rfl, Nat.le_of_ble_eq_true rfl⟩, hts (.static yX11_at) (by decide +kernel), trivial⟩ (kR.preS hP (hE.kept hS hnA)) rfl rfl hl.1 rfl (lv_room (Nat.le_of_ble_eq_true rfl)) dX3_copy_100 ⟨Nat.le_refl _, Nat.le_refl _⟩) ?_
        refine kS_w (va_runSN (As := [.ref (ad 18), .int x2_68, .int (F_at 6 ((us a68 17 (F_put 6 (a68 17) x2_68 (F_at 6 (a68 23) x2_68))) 24) x2_68)]) (rest := []) ⟨hx, hb, hml, hown, hts⟩ (c_X11_put l hz D (tX ck) (wX ad ck f68 g68 (us a68 17 (F_put 6 (a68 17) x2_68 (F_at 6 (a68 23) x2_68)))) 18 5 rfl rfl (by decide) x2_68 (F_at 6 ((us a68 17 (F_put 6 (a68 17) x2_68 (F_at 6 (a68 23) x2_68))) 24) x2_68)) ⟨va_cnB 3 hts gX3_copy_X11_put_n30 rfl rfl rfl (hE.2.1 _ knX3_30) (hts (.initialized RX11) (by decide +kernel)) pX11_put ⟨Nat.le_of_ble_eq_true rfl, Nat.le_of_ble_eq_true rfl⟩, hts (.static yX11_put) (by decide +kernel), trivial⟩ (kW.preS hP (hE.kept hS hnA) hD hnA) rfl rfl hl.1 rfl (lv_room (Nat.le_of_ble_eq_true rfl)) dX3_copy_103 ⟨Nat.le_refl _, Nat.le_refl _⟩) hD hS (kSet_fst rfl) (fun H locs hP hD hS => ?_)
        have hP := kPe (es_wX18 ad ck f68 g68 (us a68 17 (F_put 6 (a68 17) x2_68 (F_at 6 (a68 23) x2_68))) (F_put 6 ((us a68 17 (F_put 6 (a68 17) x2_68 (F_at 6 (a68 23) x2_68))) 18) x2_68 (F_at 6 ((us a68 17 (F_put 6 (a68 17) x2_68 (F_at 6 (a68 23) x2_68))) 24) x2_68))) hP
        have hD := kDe (es_wX18 ad ck f68 g68 (us a68 17 (F_put 6 (a68 17) x2_68 (F_at 6 (a68 23) x2_68))) (F_put 6 ((us a68 17 (F_put 6 (a68 17) x2_68 (F_at 6 (a68 23) x2_68))) 18) x2_68 (F_at 6 ((us a68 17 (F_put 6 (a68 17) x2_68 (F_at 6 (a68 23) x2_68))) 24) x2_68))) hD
        refine lv_aload_n hx hb dX3_copy_106 rfl (lv_at hl 0 rfl) ?_
        refine va_get (D := D) (ci := 3) (v := .ref (ad 19)) (C := RX3) (T := TX3) (N := 10) hx hb hts hiX3 hown hK hP 3 rfl rfl 5 (by decide) hf27 (fun _ h9 => h9) rfl dX3_copy_107 ?_
        refine lv_iload_n hx hb dX3_copy_110 rfl (lv_at hl 2 rfl) ?_
        refine lv_aload_n hx hb dX3_copy_111 rfl (lv_at hl 1 rfl) ?_
        refine va_get (D := D) (ci := 3) (v := .ref (ad 25)) (C := RX3) (T := TX3) (N := 10) hx hb hts hiX3 hown hK hP 4 rfl rfl 5 (by decide) hf27 (fun _ h9 => h9) rfl dX3_copy_112 ?_
        refine lv_iload_n hx hb dX3_copy_115 rfl (lv_at hl 2 rfl) ?_
        refine kS_i (va_runSN (As := [.ref (ad 25), .int x2_68]) (rest := [.int x2_68, .ref (ad 19)]) ⟨hx, hb, hml, hown, hts⟩ (c_X11_at l hz D (tX ck) (wX ad ck f68 g68 (us (us a68 17 (F_put 6 (a68 17) x2_68 (F_at 6 (a68 23) x2_68))) 18 (F_put 6 ((us a68 17 (F_put 6 (a68 17) x2_68 (F_at 6 (a68 23) x2_68))) 18) x2_68 (F_at 6 ((us a68 17 (F_put 6 (a68 17) x2_68 (F_at 6 (a68 23) x2_68))) 24) x2_68)))) 25 12 rfl rfl (by decide) x2_68) ⟨va_cnB 2 hts gX3_copy_X11_at_n47 rfl rfl rfl (hE.2.1 _ knX3_47) (hts (.initialized RX11) (by decide +kernel)) pX11_at ⟨Nat.le_of_ble_eq_true rfl, Nat.le_of_ble_eq_true rfl⟩, hts (.static yX11_at) (by decide +kernel), trivial⟩ (kR.preS hP (hE.kept hS hnA)) rfl rfl hl.1 rfl (lv_room (Nat.le_of_ble_eq_true rfl)) dX3_copy_116 ⟨Nat.le_refl _, Nat.le_refl _⟩) ?_
        refine kS_w (va_runSN (As := [.ref (ad 19), .int x2_68, .int (F_at 6 ((us (us a68 17 (F_put 6 (a68 17) x2_68 (F_at 6 (a68 23) x2_68))) 18 (F_put 6 ((us a68 17 (F_put 6 (a68 17) x2_68 (F_at 6 (a68 23) x2_68))) 18) x2_68 (F_at 6 ((us a68 17 (F_put 6 (a68 17) x2_68 (F_at 6 (a68 23) x2_68))) 24) x2_68))) 25) x2_68)]) (rest := []) ⟨hx, hb, hml, hown, hts⟩ (c_X11_put l hz D (tX ck) (wX ad ck f68 g68 (us (us a68 17 (F_put 6 (a68 17) x2_68 (F_at 6 (a68 23) x2_68))) 18 (F_put 6 ((us a68 17 (F_put 6 (a68 17) x2_68 (F_at 6 (a68 23) x2_68))) 18) x2_68 (F_at 6 ((us a68 17 (F_put 6 (a68 17) x2_68 (F_at 6 (a68 23) x2_68))) 24) x2_68)))) 19 6 rfl rfl (by decide) x2_68 (F_at 6 ((us (us a68 17 (F_put 6 (a68 17) x2_68 (F_at 6 (a68 23) x2_68))) 18 (F_put 6 ((us a68 17 (F_put 6 (a68 17) x2_68 (F_at 6 (a68 23) x2_68))) 18) x2_68 (F_at 6 ((us a68 17 (F_put 6 (a68 17) x2_68 (F_at 6 (a68 23) x2_68))) 24) x2_68))) 25) x2_68)) ⟨va_cnB 3 hts gX3_copy_X11_put_n30 rfl rfl rfl (hE.2.1 _ knX3_30) (hts (.initialized RX11) (by decide +kernel)) pX11_put ⟨Nat.le_of_ble_eq_true rfl, Nat.le_of_ble_eq_true rfl⟩, hts (.static yX11_put) (by decide +kernel), trivial⟩ (kW.preS hP (hE.kept hS hnA) hD hnA) rfl rfl hl.1 rfl (lv_room (Nat.le_of_ble_eq_true rfl)) dX3_copy_119 ⟨Nat.le_refl _, Nat.le_refl _⟩) hD hS (kSet_fst rfl) (fun H locs hP hD hS => ?_)
        have hP := kPe (es_wX19 ad ck f68 g68 (us (us a68 17 (F_put 6 (a68 17) x2_68 (F_at 6 (a68 23) x2_68))) 18 (F_put 6 ((us a68 17 (F_put 6 (a68 17) x2_68 (F_at 6 (a68 23) x2_68))) 18) x2_68 (F_at 6 ((us a68 17 (F_put 6 (a68 17) x2_68 (F_at 6 (a68 23) x2_68))) 24) x2_68))) (F_put 6 ((us (us a68 17 (F_put 6 (a68 17) x2_68 (F_at 6 (a68 23) x2_68))) 18 (F_put 6 ((us a68 17 (F_put 6 (a68 17) x2_68 (F_at 6 (a68 23) x2_68))) 18) x2_68 (F_at 6 ((us a68 17 (F_put 6 (a68 17) x2_68 (F_at 6 (a68 23) x2_68))) 24) x2_68))) 19) x2_68 (F_at 6 ((us (us a68 17 (F_put 6 (a68 17) x2_68 (F_at 6 (a68 23) x2_68))) 18 (F_put 6 ((us a68 17 (F_put 6 (a68 17) x2_68 (F_at 6 (a68 23) x2_68))) 18) x2_68 (F_at 6 ((us a68 17 (F_put 6 (a68 17) x2_68 (F_at 6 (a68 23) x2_68))) 24) x2_68))) 25) x2_68))) hP
        have hD := kDe (es_wX19 ad ck f68 g68 (us (us a68 17 (F_put 6 (a68 17) x2_68 (F_at 6 (a68 23) x2_68))) 18 (F_put 6 ((us a68 17 (F_put 6 (a68 17) x2_68 (F_at 6 (a68 23) x2_68))) 18) x2_68 (F_at 6 ((us a68 17 (F_put 6 (a68 17) x2_68 (F_at 6 (a68 23) x2_68))) 24) x2_68))) (F_put 6 ((us (us a68 17 (F_put 6 (a68 17) x2_68 (F_at 6 (a68 23) x2_68))) 18 (F_put 6 ((us a68 17 (F_put 6 (a68 17) x2_68 (F_at 6 (a68 23) x2_68))) 18) x2_68 (F_at 6 ((us a68 17 (F_put 6 (a68 17) x2_68 (F_at 6 (a68 23) x2_68))) 24) x2_68))) 19) x2_68 (F_at 6 ((us (us a68 17 (F_put 6 (a68 17) x2_68 (F_at 6 (a68 23) x2_68))) 18 (F_put 6 ((us a68 17 (F_put 6 (a68 17) x2_68 (F_at 6 (a68 23) x2_68))) 18) x2_68 (F_at 6 ((us a68 17 (F_put 6 (a68 17) x2_68 (F_at 6 (a68 23) x2_68))) 24) x2_68))) 25) x2_68))) hD
        refine lv_iinc (v := (x2_68 + 1)) (lv' := [(2, .int (x2_68 + 1)), (0, .ref (ad 3)), (1, .ref (ad 4))]) hx hb dX3_copy_122 hl (k := 2) rfl rfl (by decide) rfl (fun ls hl => ?_)
        refine lv_goto (tgt := 68) hx hb dX3_copy_125 (by decide) ?_
        have hF := Option.some.inj hF
        subst hF
        obtain ⟨r, hF, hp⟩ := hp
        exact ih68 f68 g68 (us (us (us a68 17 (F_put 6 (a68 17) x2_68 (F_at 6 (a68 23) x2_68))) 18 (F_put 6 ((us a68 17 (F_put 6 (a68 17) x2_68 (F_at 6 (a68 23) x2_68))) 18) x2_68 (F_at 6 ((us a68 17 (F_put 6 (a68 17) x2_68 (F_at 6 (a68 23) x2_68))) 24) x2_68))) 19 (F_put 6 ((us (us a68 17 (F_put 6 (a68 17) x2_68 (F_at 6 (a68 23) x2_68))) 18 (F_put 6 ((us a68 17 (F_put 6 (a68 17) x2_68 (F_at 6 (a68 23) x2_68))) 18) x2_68 (F_at 6 ((us a68 17 (F_put 6 (a68 17) x2_68 (F_at 6 (a68 23) x2_68))) 24) x2_68))) 19) x2_68 (F_at 6 ((us (us a68 17 (F_put 6 (a68 17) x2_68 (F_at 6 (a68 23) x2_68))) 18 (F_put 6 ((us a68 17 (F_put 6 (a68 17) x2_68 (F_at 6 (a68 23) x2_68))) 18) x2_68 (F_at 6 ((us a68 17 (F_put 6 (a68 17) x2_68 (F_at 6 (a68 23) x2_68))) 24) x2_68))) 25) x2_68))) _ _ (x2_68 + 1) ls hP hD hS (lv_sub hl [1, 2, 0] rfl) r hF hp
  have hN_7 : ∀ (n7 : Nat) (f7 : Nat → Int32) (g7 : Nat → Int64) (a7 : Nat → Nat → Int32) (H : Heap) (locs : List Loc) (x2_7 : Int32) (ls : Array Slot), va_P D vwCl (wX ad ck f7 g7 a7) H → va_D (kAd (wX ad ck f0 g0 a0)) (wX ad ck f7 g7 a7) → va_S (kAd (wX ad ck f0 g0 a0)) s.heap H locs → lv_has ls 3 [(0, .ref (ad 3)), (1, .ref (ad 4)), (2, .int x2_7)] → ∀ r : ST, lpN (fun q7 : (Int32 × ST) => B_X3_copyH_7 q7.2.1 q7.2.2.1 q7.2.2.2 q7.1) n7 (x2_7, f7, g7, a7) = some r → (fun r => r = out) r → W p l e (headSpec wsX3_copy ({ frames := 1, cells := 0, slots := 0, locals := 22 })).room s m [.ref (ad 3), .ref (ad 4)].toArray below meth c H locs 0 0 (MQ below (kQ D vwCl none (wX ad ck f0 g0 a0) (wX ad ck out.1 out.2.1 out.2.2)) [.ref (ad 3), .ref (ad 4)].toArray s 0 0 (kAd (wX ad ck f0 g0 a0))) (F0 m 7 ls []) := by
    intro n7
    induction n7 with
    | zero => intro f7 g7 a7 H locs x2_7 ls hP hD hS hl r hF hp; exact (lp_z hF).elim
    | succ n7 ih7 =>
      intro f7 g7 a7 H locs x2_7 ls hP hD hS hl r hF hp
      obtain ⟨rs, hF, hp⟩ := lpN_K (P := (fun r => r = out)) hF hp
      unfold B_X3_copyH_7 at hF
      refine lv_iload_n hx hb dX3_copy_7 rfl (lv_at hl 2 rfl) ?_
      refine lv_iconst (v := 5) hx hb dX3_copy_8 (by decide) ?_
      refine lv_icmp_ge (tgt := 66) hx hb dX3_copy_9 (by decide) (fun hc1 => ?_) (fun hc1 => ?_)
      · have hF := it_p hc1 hF
        obtain ⟨r, hF1, hr0⟩ := mp_s hF
        clear hF
        subst hr0
        have hF := hF1
        clear hF1
        have hp : (fun r => r = out) r := hp
        refine lv_iconst (v := 0) hx hb dX3_copy_66 (by decide) ?_
        refine lv_istore_n (lv' := [(2, .int 0), (0, .ref (ad 3)), (1, .ref (ad 4))]) hx hb dX3_copy_67 rfl hl (by decide) rfl (fun ls hl => ?_)
        exact hN_68 kFu f7 g7 a7 _ _ 0 ls hP hD hS (lv_sub hl [1, 2, 0] rfl) _ hF hp
      · have hF := it_n hc1 hF
        refine lv_aload_n hx hb dX3_copy_12 rfl (lv_at hl 0 rfl) ?_
        refine va_get (D := D) (ci := 3) (v := .ref (ad 14)) (C := RX3) (T := TX3) (N := 10) hx hb hts hiX3 hown hK hP 3 rfl rfl 0 (by decide) hf9 (fun _ h9 => h9) rfl dX3_copy_13 ?_
        refine lv_iload_n hx hb dX3_copy_16 rfl (lv_at hl 2 rfl) ?_
        refine lv_aload_n hx hb dX3_copy_17 rfl (lv_at hl 1 rfl) ?_
        refine va_get (D := D) (ci := 3) (v := .ref (ad 20)) (C := RX3) (T := TX3) (N := 10) hx hb hts hiX3 hown hK hP 4 rfl rfl 0 (by decide) hf9 (fun _ h9 => h9) rfl dX3_copy_18 ?_
        refine lv_iload_n hx hb dX3_copy_21 rfl (lv_at hl 2 rfl) ?_
        refine kS_i (va_runSN (As := [.ref (ad 20), .int x2_7]) (rest := [.int x2_7, .ref (ad 14)]) ⟨hx, hb, hml, hown, hts⟩ (c_X11_at l hz D (tX ck) (wX ad ck f7 g7 a7) 20 7 rfl rfl (by decide) x2_7) ⟨va_cnB 2 hts gX3_copy_X11_at_n47 rfl rfl rfl (hE.2.1 _ knX3_47) (hts (.initialized RX11) (by decide +kernel)) pX11_at ⟨Nat.le_of_ble_eq_true rfl, Nat.le_of_ble_eq_true rfl⟩, hts (.static yX11_at) (by decide +kernel), trivial⟩ (kR.preS hP (hE.kept hS hnA)) rfl rfl hl.1 rfl (lv_room (Nat.le_of_ble_eq_true rfl)) dX3_copy_22 ⟨Nat.le_refl _, Nat.le_refl _⟩) ?_
        refine kS_w (va_runSN (As := [.ref (ad 14), .int x2_7, .int (F_at 5 (a7 20) x2_7)]) (rest := []) ⟨hx, hb, hml, hown, hts⟩ (c_X11_put l hz D (tX ck) (wX ad ck f7 g7 a7) 14 1 rfl rfl (by decide) x2_7 (F_at 5 (a7 20) x2_7)) ⟨va_cnB 3 hts gX3_copy_X11_put_n30 rfl rfl rfl (hE.2.1 _ knX3_30) (hts (.initialized RX11) (by decide +kernel)) pX11_put ⟨Nat.le_of_ble_eq_true rfl, Nat.le_of_ble_eq_true rfl⟩, hts (.static yX11_put) (by decide +kernel), trivial⟩ (kW.preS hP (hE.kept hS hnA) hD hnA) rfl rfl hl.1 rfl (lv_room (Nat.le_of_ble_eq_true rfl)) dX3_copy_25 ⟨Nat.le_refl _, Nat.le_refl _⟩) hD hS (kSet_fst rfl) (fun H locs hP hD hS => ?_)
        have hP := kPe (es_wX14 ad ck f7 g7 a7 (F_put 5 (a7 14) x2_7 (F_at 5 (a7 20) x2_7))) hP
        have hD := kDe (es_wX14 ad ck f7 g7 a7 (F_put 5 (a7 14) x2_7 (F_at 5 (a7 20) x2_7))) hD
        refine lv_aload_n hx hb dX3_copy_28 rfl (lv_at hl 0 rfl) ?_
        refine va_get (D := D) (ci := 3) (v := .ref (ad 15)) (C := RX3) (T := TX3) (N := 10) hx hb hts hiX3 hown hK hP 3 rfl rfl 1 (by decide) hf15 (fun _ h9 => h9) rfl dX3_copy_29 ?_
        refine lv_iload_n hx hb dX3_copy_32 rfl (lv_at hl 2 rfl) ?_
        refine lv_aload_n hx hb dX3_copy_33 rfl (lv_at hl 1 rfl) ?_
        refine va_get (D := D) (ci := 3) (v := .ref (ad 21)) (C := RX3) (T := TX3) (N := 10) hx hb hts hiX3 hown hK hP 4 rfl rfl 1 (by decide) hf15 (fun _ h9 => h9) rfl dX3_copy_34 ?_
        refine lv_iload_n hx hb dX3_copy_37 rfl (lv_at hl 2 rfl) ?_
        refine kS_i (va_runSN (As := [.ref (ad 21), .int x2_7]) (rest := [.int x2_7, .ref (ad 15)]) ⟨hx, hb, hml, hown, hts⟩ (c_X11_at l hz D (tX ck) (wX ad ck f7 g7 (us a7 14 (F_put 5 (a7 14) x2_7 (F_at 5 (a7 20) x2_7)))) 21 8 rfl rfl (by decide) x2_7) ⟨va_cnB 2 hts gX3_copy_X11_at_n47 rfl rfl rfl (hE.2.1 _ knX3_47) (hts (.initialized RX11) (by decide +kernel)) pX11_at ⟨Nat.le_of_ble_eq_true rfl, Nat.le_of_ble_eq_true rfl⟩, hts (.static yX11_at) (by decide +kernel), trivial⟩ (kR.preS hP (hE.kept hS hnA)) rfl rfl hl.1 rfl (lv_room (Nat.le_of_ble_eq_true rfl)) dX3_copy_38 ⟨Nat.le_refl _, Nat.le_refl _⟩) ?_
        refine kS_w (va_runSN (As := [.ref (ad 15), .int x2_7, .int (F_at 5 ((us a7 14 (F_put 5 (a7 14) x2_7 (F_at 5 (a7 20) x2_7))) 21) x2_7)]) (rest := []) ⟨hx, hb, hml, hown, hts⟩ (c_X11_put l hz D (tX ck) (wX ad ck f7 g7 (us a7 14 (F_put 5 (a7 14) x2_7 (F_at 5 (a7 20) x2_7)))) 15 2 rfl rfl (by decide) x2_7 (F_at 5 ((us a7 14 (F_put 5 (a7 14) x2_7 (F_at 5 (a7 20) x2_7))) 21) x2_7)) ⟨va_cnB 3 hts gX3_copy_X11_put_n30 rfl rfl rfl (hE.2.1 _ knX3_30) (hts (.initialized RX11) (by decide +kernel)) pX11_put ⟨Nat.le_of_ble_eq_true rfl, Nat.le_of_ble_eq_true rfl⟩, hts (.static yX11_put) (by decide +kernel), trivial⟩ (kW.preS hP (hE.kept hS hnA) hD hnA) rfl rfl hl.1 rfl (lv_room (Nat.le_of_ble_eq_true rfl)) dX3_copy_41 ⟨Nat.le_refl _, Nat.le_refl _⟩) hD hS (kSet_fst rfl) (fun H locs hP hD hS => ?_)
        have hP := kPe (es_wX15 ad ck f7 g7 (us a7 14 (F_put 5 (a7 14) x2_7 (F_at 5 (a7 20) x2_7))) (F_put 5 ((us a7 14 (F_put 5 (a7 14) x2_7 (F_at 5 (a7 20) x2_7))) 15) x2_7 (F_at 5 ((us a7 14 (F_put 5 (a7 14) x2_7 (F_at 5 (a7 20) x2_7))) 21) x2_7))) hP
        have hD := kDe (es_wX15 ad ck f7 g7 (us a7 14 (F_put 5 (a7 14) x2_7 (F_at 5 (a7 20) x2_7))) (F_put 5 ((us a7 14 (F_put 5 (a7 14) x2_7 (F_at 5 (a7 20) x2_7))) 15) x2_7 (F_at 5 ((us a7 14 (F_put 5 (a7 14) x2_7 (F_at 5 (a7 20) x2_7))) 21) x2_7))) hD
        refine lv_aload_n hx hb dX3_copy_44 rfl (lv_at hl 0 rfl) ?_
        refine va_get (D := D) (ci := 3) (v := .ref (ad 16)) (C := RX3) (T := TX3) (N := 10) hx hb hts hiX3 hown hK hP 3 rfl rfl 2 (by decide) hf18 (fun _ h9 => h9) rfl dX3_copy_45 ?_
        refine lv_iload_n hx hb dX3_copy_48 rfl (lv_at hl 2 rfl) ?_
        refine lv_aload_n hx hb dX3_copy_49 rfl (lv_at hl 1 rfl) ?_
        refine va_get (D := D) (ci := 3) (v := .ref (ad 22)) (C := RX3) (T := TX3) (N := 10) hx hb hts hiX3 hown hK hP 4 rfl rfl 2 (by decide) hf18 (fun _ h9 => h9) rfl dX3_copy_50 ?_
        refine lv_iload_n hx hb dX3_copy_53 rfl (lv_at hl 2 rfl) ?_
        refine kS_i (va_runSN (As := [.ref (ad 22), .int x2_7]) (rest := [.int x2_7, .ref (ad 16)]) ⟨hx, hb, hml, hown, hts⟩ (c_X11_at l hz D (tX ck) (wX ad ck f7 g7 (us (us a7 14 (F_put 5 (a7 14) x2_7 (F_at 5 (a7 20) x2_7))) 15 (F_put 5 ((us a7 14 (F_put 5 (a7 14) x2_7 (F_at 5 (a7 20) x2_7))) 15) x2_7 (F_at 5 ((us a7 14 (F_put 5 (a7 14) x2_7 (F_at 5 (a7 20) x2_7))) 21) x2_7)))) 22 9 rfl rfl (by decide) x2_7) ⟨va_cnB 2 hts gX3_copy_X11_at_n47 rfl rfl rfl (hE.2.1 _ knX3_47) (hts (.initialized RX11) (by decide +kernel)) pX11_at ⟨Nat.le_of_ble_eq_true rfl, Nat.le_of_ble_eq_true rfl⟩, hts (.static yX11_at) (by decide +kernel), trivial⟩ (kR.preS hP (hE.kept hS hnA)) rfl rfl hl.1 rfl (lv_room (Nat.le_of_ble_eq_true rfl)) dX3_copy_54 ⟨Nat.le_refl _, Nat.le_refl _⟩) ?_
        refine kS_w (va_runSN (As := [.ref (ad 16), .int x2_7, .int (F_at 5 ((us (us a7 14 (F_put 5 (a7 14) x2_7 (F_at 5 (a7 20) x2_7))) 15 (F_put 5 ((us a7 14 (F_put 5 (a7 14) x2_7 (F_at 5 (a7 20) x2_7))) 15) x2_7 (F_at 5 ((us a7 14 (F_put 5 (a7 14) x2_7 (F_at 5 (a7 20) x2_7))) 21) x2_7))) 22) x2_7)]) (rest := []) ⟨hx, hb, hml, hown, hts⟩ (c_X11_put l hz D (tX ck) (wX ad ck f7 g7 (us (us a7 14 (F_put 5 (a7 14) x2_7 (F_at 5 (a7 20) x2_7))) 15 (F_put 5 ((us a7 14 (F_put 5 (a7 14) x2_7 (F_at 5 (a7 20) x2_7))) 15) x2_7 (F_at 5 ((us a7 14 (F_put 5 (a7 14) x2_7 (F_at 5 (a7 20) x2_7))) 21) x2_7)))) 16 3 rfl rfl (by decide) x2_7 (F_at 5 ((us (us a7 14 (F_put 5 (a7 14) x2_7 (F_at 5 (a7 20) x2_7))) 15 (F_put 5 ((us a7 14 (F_put 5 (a7 14) x2_7 (F_at 5 (a7 20) x2_7))) 15) x2_7 (F_at 5 ((us a7 14 (F_put 5 (a7 14) x2_7 (F_at 5 (a7 20) x2_7))) 21) x2_7))) 22) x2_7)) ⟨va_cnB 3 hts gX3_copy_X11_put_n30 rfl rfl rfl (hE.2.1 _ knX3_30) (hts (.initialized RX11) (by decide +kernel)) pX11_put ⟨Nat.le_of_ble_eq_true rfl, Nat.le_of_ble_eq_true rfl⟩, hts (.static yX11_put) (by decide +kernel), trivial⟩ (kW.preS hP (hE.kept hS hnA) hD hnA) rfl rfl hl.1 rfl (lv_room (Nat.le_of_ble_eq_true rfl)) dX3_copy_57 ⟨Nat.le_refl _, Nat.le_refl _⟩) hD hS (kSet_fst rfl) (fun H locs hP hD hS => ?_)
        have hP := kPe (es_wX16 ad ck f7 g7 (us (us a7 14 (F_put 5 (a7 14) x2_7 (F_at 5 (a7 20) x2_7))) 15 (F_put 5 ((us a7 14 (F_put 5 (a7 14) x2_7 (F_at 5 (a7 20) x2_7))) 15) x2_7 (F_at 5 ((us a7 14 (F_put 5 (a7 14) x2_7 (F_at 5 (a7 20) x2_7))) 21) x2_7))) (F_put 5 ((us (us a7 14 (F_put 5 (a7 14) x2_7 (F_at 5 (a7 20) x2_7))) 15 (F_put 5 ((us a7 14 (F_put 5 (a7 14) x2_7 (F_at 5 (a7 20) x2_7))) 15) x2_7 (F_at 5 ((us a7 14 (F_put 5 (a7 14) x2_7 (F_at 5 (a7 20) x2_7))) 21) x2_7))) 16) x2_7 (F_at 5 ((us (us a7 14 (F_put 5 (a7 14) x2_7 (F_at 5 (a7 20) x2_7))) 15 (F_put 5 ((us a7 14 (F_put 5 (a7 14) x2_7 (F_at 5 (a7 20) x2_7))) 15) x2_7 (F_at 5 ((us a7 14 (F_put 5 (a7 14) x2_7 (F_at 5 (a7 20) x2_7))) 21) x2_7))) 22) x2_7))) hP
        have hD := kDe (es_wX16 ad ck f7 g7 (us (us a7 14 (F_put 5 (a7 14) x2_7 (F_at 5 (a7 20) x2_7))) 15 (F_put 5 ((us a7 14 (F_put 5 (a7 14) x2_7 (F_at 5 (a7 20) x2_7))) 15) x2_7 (F_at 5 ((us a7 14 (F_put 5 (a7 14) x2_7 (F_at 5 (a7 20) x2_7))) 21) x2_7))) (F_put 5 ((us (us a7 14 (F_put 5 (a7 14) x2_7 (F_at 5 (a7 20) x2_7))) 15 (F_put 5 ((us a7 14 (F_put 5 (a7 14) x2_7 (F_at 5 (a7 20) x2_7))) 15) x2_7 (F_at 5 ((us a7 14 (F_put 5 (a7 14) x2_7 (F_at 5 (a7 20) x2_7))) 21) x2_7))) 16) x2_7 (F_at 5 ((us (us a7 14 (F_put 5 (a7 14) x2_7 (F_at 5 (a7 20) x2_7))) 15 (F_put 5 ((us a7 14 (F_put 5 (a7 14) x2_7 (F_at 5 (a7 20) x2_7))) 15) x2_7 (F_at 5 ((us a7 14 (F_put 5 (a7 14) x2_7 (F_at 5 (a7 20) x2_7))) 21) x2_7))) 22) x2_7))) hD
        refine lv_iinc (v := (x2_7 + 1)) (lv' := [(2, .int (x2_7 + 1)), (0, .ref (ad 3)), (1, .ref (ad 4))]) hx hb dX3_copy_60 hl (k := 2) rfl rfl (by decide) rfl (fun ls hl => ?_)
        refine lv_goto (tgt := 7) hx hb dX3_copy_63 (by decide) ?_
        have hF := Option.some.inj hF
        subst hF
        obtain ⟨r, hF, hp⟩ := hp
        exact ih7 f7 g7 (us (us (us a7 14 (F_put 5 (a7 14) x2_7 (F_at 5 (a7 20) x2_7))) 15 (F_put 5 ((us a7 14 (F_put 5 (a7 14) x2_7 (F_at 5 (a7 20) x2_7))) 15) x2_7 (F_at 5 ((us a7 14 (F_put 5 (a7 14) x2_7 (F_at 5 (a7 20) x2_7))) 21) x2_7))) 16 (F_put 5 ((us (us a7 14 (F_put 5 (a7 14) x2_7 (F_at 5 (a7 20) x2_7))) 15 (F_put 5 ((us a7 14 (F_put 5 (a7 14) x2_7 (F_at 5 (a7 20) x2_7))) 15) x2_7 (F_at 5 ((us a7 14 (F_put 5 (a7 14) x2_7 (F_at 5 (a7 20) x2_7))) 21) x2_7))) 16) x2_7 (F_at 5 ((us (us a7 14 (F_put 5 (a7 14) x2_7 (F_at 5 (a7 20) x2_7))) 15 (F_put 5 ((us a7 14 (F_put 5 (a7 14) x2_7 (F_at 5 (a7 20) x2_7))) 15) x2_7 (F_at 5 ((us a7 14 (F_put 5 (a7 14) x2_7 (F_at 5 (a7 20) x2_7))) 21) x2_7))) 22) x2_7))) _ _ (x2_7 + 1) ls hP hD hS (lv_sub hl [1, 2, 0] rfl) r hF hp
  have hl := lv_entry ([.ref (ad 3), .ref (ad 4)]) (n := 3) (Nat.le_of_ble_eq_true rfl)
  rw [lg_entry_eq]
  generalize (lg_sl ([.ref (ad 3), .ref (ad 4)]) ++ List.replicate (3 - (lg_sl ([.ref (ad 3), .ref (ad 4)])).length) Slot.unset).toArray = ls at hl ⊢
  have hl : lv_has ls 3 [(0, .ref (ad 3)), (1, .ref (ad 4))] := hl
  obtain ⟨r, hF, hp⟩ : ∃ r, F_X3_copyH f0 g0 a0 = some r ∧ r = out := ⟨out, hF, rfl⟩
  unfold F_X3_copyH at hF
  refine lv_aload_n hx hb dX3_copy_0 rfl (lv_at hl 1 rfl) ?_
  refine lv_ifnonnull (tgt := 5) hx hb dX3_copy_1 (by decide) ?_
  refine lv_iconst (v := 0) hx hb dX3_copy_5 (by decide) ?_
  refine lv_istore_n (lv' := [(2, .int 0), (0, .ref (ad 3)), (1, .ref (ad 4))]) hx hb dX3_copy_6 rfl hl (by decide) rfl (fun ls hl => ?_)
  exact hN_7 kFu f0 g0 a0 _ _ 0 ls hP hD hS (lv_sub hl [1, 2, 0] rfl) _ hF hp

def N_X3_setFoe_36 (f36 : Nat → Int32) (g36 : Nat → Int64) (a36 : Nat → Nat → Int32) (t0_36 : Int32) (t1_36 : Int32) : Option ST := some (f36, g36, (us a36 16 (F_put 5 (a36 16) t1_36 t0_36)))
def F_X3_setFoe (f0 : Nat → Int32) (g0 : Nat → Int64) (a0 : Nat → Nat → Int32) (p1 : Int32) (p2 : Int32) (p3 : Int32) : Option ST := if p3 = 0 then N_X3_setFoe_36 f0 g0 a0 ((F_at 5 (a0 16) p1) &&& (((1 : Int32) <<< (p2 &&& 31)) ^^^ (-1 : Int32))) p1 else N_X3_setFoe_36 f0 g0 a0 (((F_at 5 (a0 16) p1) &&& (((1 : Int32) <<< (p2 &&& 31)) ^^^ (-1 : Int32))) ||| ((1 : Int32) <<< (p2 &&& 31))) p1
set_option maxHeartbeats 4000000 in
set_option maxRecDepth 100000 in
theorem c_X3_setFoe (l : Launch) (hz : Nat) (D : va_G) (ad : Nat → Nat) (ck : Nat → ClassId) (f0 : Nat → Int32) (g0 : Nat → Int64) (a0 : Nat → Nat → Int32) (p1 : Int32) (p2 : Int32) (p3 : Int32) (out : ST) (hF : F_X3_setFoe f0 g0 a0 p1 p2 p3 = some out) : Met l yX3_setFoe wsX3_setFoe ({ frames := 1, cells := 0, slots := 0, locals := 22 }) (kW hz D vwCl (tX ck) (wX ad ck f0 g0 a0) [.ref (ad 3), .int p1, .int p2, .int p3]) (kQ D vwCl none (wX ad ck f0 g0 a0) (wX ad ck out.1 out.2.1 out.2.2)) 0 0 (kAd (wX ad ck f0 g0 a0)) := by
  refine Met.ofW (cc := cX3_setFoe) (maxL := 5) (ret := none) (by decide) rfl ?_
  intro p e s m args below meth c s₁ B hml hv
  obtain ⟨rfl, hP, hE, hD0⟩ := hv
  have hx := B.exec
  have hb := B.bytes
  have hr := B.returns
  have hts := atoms_spec (ws := wsX3_setFoe) B.pre
  have hown : s.vm.findClass RX3 = some m.cls := findClass_of_methodNamed B.named
  have hlocks := B.notSynchronized
  have hK := hE.1
  have hnA := kAd_up hD0
  have hD := kD_self hD0
  have hS : va_S (kAd (wX ad ck f0 g0 a0)) s.heap s.heap [] := va_S.rf
  have hiX3 : ∀ w ∈ u_ws RX3 TX3 10, w ∈ wsX3_setFoe := by decide +kernel
  have hf18 := hts (.fieldLink RX3 18 "SpeltByFriends$Ledger" "foes" "[I") (by decide +kernel)
  have hN_36 : ∀ (f36 : Nat → Int32) (g36 : Nat → Int64) (a36 : Nat → Nat → Int32) (H : Heap) (locs : List Loc) (t0_36 : Int32) (t1_36 : Int32) (ls : Array Slot), va_P D vwCl (wX ad ck f36 g36 a36) H → va_D (kAd (wX ad ck f0 g0 a0)) (wX ad ck f36 g36 a36) → va_S (kAd (wX ad ck f0 g0 a0)) s.heap H locs → lv_has ls 5 [] → ∀ r : ST, N_X3_setFoe_36 f36 g36 a36 t0_36 t1_36 = some r → (fun r => r = out) r → W p l e (headSpec wsX3_setFoe ({ frames := 1, cells := 0, slots := 0, locals := 22 })).room s m [.ref (ad 3), .int p1, .int p2, .int p3].toArray below meth c H locs 0 0 (MQ below (kQ D vwCl none (wX ad ck f0 g0 a0) (wX ad ck out.1 out.2.1 out.2.2)) [.ref (ad 3), .int p1, .int p2, .int p3].toArray s 0 0 (kAd (wX ad ck f0 g0 a0))) (F0 m 36 ls [.int t0_36, .int t1_36, .ref (ad 16)]) := by
    intro f36 g36 a36 H locs t0_36 t1_36 ls hP hD hS hl r hF hp
    unfold N_X3_setFoe_36 at hF
    refine kS_w (va_runSN (As := [.ref (ad 16), .int t1_36, .int t0_36]) (rest := []) ⟨hx, hb, hml, hown, hts⟩ (c_X11_put l hz D (tX ck) (wX ad ck f36 g36 a36) 16 3 rfl rfl (by decide) t1_36 t0_36) ⟨va_cnB 3 hts gX3_setFoe_X11_put_n30 rfl rfl rfl (hE.2.1 _ knX3_30) (hts (.initialized RX11) (by decide +kernel)) pX11_put ⟨Nat.le_of_ble_eq_true rfl, Nat.le_of_ble_eq_true rfl⟩, hts (.static yX11_put) (by decide +kernel), trivial⟩ (kW.preS hP (hE.kept hS hnA) hD hnA) rfl rfl hl.1 rfl (lv_room (Nat.le_of_ble_eq_true rfl)) dX3_setFoe_36 ⟨Nat.le_refl _, Nat.le_refl _⟩) hD hS (kSet_fst rfl) (fun H locs hP hD hS => ?_)
    have hP := kPe (es_wX16 ad ck f36 g36 a36 (F_put 5 (a36 16) t1_36 t0_36)) hP
    have hD := kDe (es_wX16 ad ck f36 g36 a36 (F_put 5 (a36 16) t1_36 t0_36)) hD
    have hF := (Option.some.inj hF).trans hp
    subst hF
    exact W.vret hx hb hr (fun t ht hW => ⟨rfl, by rw [ht]; exact hP, hS.F ht⟩) hS.2.2 dX3_setFoe_39
  have hl := lv_entry ([.ref (ad 3), .int p1, .int p2, .int p3]) (n := 5) (Nat.le_of_ble_eq_true rfl)
  rw [lg_entry_eq]
  generalize (lg_sl ([.ref (ad 3), .int p1, .int p2, .int p3]) ++ List.replicate (5 - (lg_sl ([.ref (ad 3), .int p1, .int p2, .int p3])).length) Slot.unset).toArray = ls at hl ⊢
  have hl : lv_has ls 5 [(0, .ref (ad 3)), (1, .int p1), (2, .int p2), (3, .int p3)] := hl
  obtain ⟨r, hF, hp⟩ : ∃ r, F_X3_setFoe f0 g0 a0 p1 p2 p3 = some r ∧ r = out := ⟨out, hF, rfl⟩
  unfold F_X3_setFoe at hF
  refine lv_aload_n hx hb dX3_setFoe_0 rfl (lv_at hl 0 rfl) ?_
  refine va_get (D := D) (ci := 3) (v := .ref (ad 16)) (C := RX3) (T := TX3) (N := 10) hx hb hts hiX3 hown hK hP 3 rfl rfl 2 (by decide) hf18 (fun _ h9 => h9) rfl dX3_setFoe_1 ?_
  refine lv_iload_n hx hb dX3_setFoe_4 rfl (lv_at hl 1 rfl) ?_
  refine kS_i (va_runSN (As := [.ref (ad 16), .int p1]) (rest := []) ⟨hx, hb, hml, hown, hts⟩ (c_X11_at l hz D (tX ck) (wX ad ck f0 g0 a0) 16 3 rfl rfl (by decide) p1) ⟨va_cnB 2 hts gX3_setFoe_X11_at_n47 rfl rfl rfl (hE.2.1 _ knX3_47) (hts (.initialized RX11) (by decide +kernel)) pX11_at ⟨Nat.le_of_ble_eq_true rfl, Nat.le_of_ble_eq_true rfl⟩, hts (.static yX11_at) (by decide +kernel), trivial⟩ (kR.preS hP (hE.kept hS hnA)) rfl rfl hl.1 rfl (lv_room (Nat.le_of_ble_eq_true rfl)) dX3_setFoe_5 ⟨Nat.le_refl _, Nat.le_refl _⟩) ?_
  refine lv_iconst (v := 1) hx hb dX3_setFoe_8 (by decide) ?_
  refine lv_iload_n hx hb dX3_setFoe_9 rfl (lv_at hl 2 rfl) ?_
  refine lv_ishl hx hb dX3_setFoe_10 ?_
  refine lv_iconst (v := (-1)) hx hb dX3_setFoe_11 (by decide) ?_
  refine lv_ixor hx hb dX3_setFoe_12 ?_
  refine lv_iand hx hb dX3_setFoe_13 ?_
  refine lv_istore (lv' := [(4, .int ((F_at 5 (a0 16) p1) &&& (((1 : Int32) <<< (p2 &&& 31)) ^^^ (-1 : Int32)))), (0, .ref (ad 3)), (1, .int p1), (2, .int p2), (3, .int p3)]) hx hb dX3_setFoe_14 hl (by decide) rfl (fun ls hl => ?_)
  refine lv_aload_n hx hb dX3_setFoe_16 rfl (lv_at hl 1 rfl) ?_
  refine va_get (D := D) (ci := 3) (v := .ref (ad 16)) (C := RX3) (T := TX3) (N := 10) hx hb hts hiX3 hown hK hP 3 rfl rfl 2 (by decide) hf18 (fun _ h9 => h9) rfl dX3_setFoe_17 ?_
  refine lv_iload_n hx hb dX3_setFoe_20 rfl (lv_at hl 2 rfl) ?_
  refine lv_iload_n hx hb dX3_setFoe_21 rfl (lv_at hl 4 rfl) ?_
  refine lv_if_eq (tgt := 34) hx hb dX3_setFoe_22 (by decide) (fun hc1 => ?_) (fun hc1 => ?_)
  · have hF := it_p hc1 hF
    refine lv_iload hx hb dX3_setFoe_34 (lv_at hl 0 rfl) ?_
    exact hN_36 f0 g0 a0 _ _ ((F_at 5 (a0 16) p1) &&& (((1 : Int32) <<< (p2 &&& 31)) ^^^ (-1 : Int32))) p1 ls hP hD hS (lv_sub hl [] rfl) _ hF hp
  · have hF := it_n hc1 hF
    refine lv_iload hx hb dX3_setFoe_25 (lv_at hl 0 rfl) ?_
    refine lv_iconst (v := 1) hx hb dX3_setFoe_27 (by decide) ?_
    refine lv_iload_n hx hb dX3_setFoe_28 rfl (lv_at hl 3 rfl) ?_
    refine lv_ishl hx hb dX3_setFoe_29 ?_
    refine lv_ior hx hb dX3_setFoe_30 ?_
    refine lv_goto (tgt := 36) hx hb dX3_setFoe_31 (by decide) ?_
    exact hN_36 f0 g0 a0 _ _ (((F_at 5 (a0 16) p1) &&& (((1 : Int32) <<< (p2 &&& 31)) ^^^ (-1 : Int32))) ||| ((1 : Int32) <<< (p2 &&& 31))) p1 ls hP hD hS (lv_sub hl [] rfl) _ hF hp

def N_X3_addHeard_41 (f41 : Nat → Int32) (g41 : Nat → Int64) (a41 : Nat → Nat → Int32) (t0_41 : Int32) (t1_41 : Int32) : Option ST := some ((upd f41 7 ((f41 7) + (1 : Int32))), g41, (us a41 19 (F_put 6 (a41 19) t1_41 t0_41)))
def F_X3_addHeard (f0 : Nat → Int32) (g0 : Nat → Int64) (a0 : Nat → Nat → Int32) (p1 : Int32) (p2 : Int32) (p3 : Int32) : Option ST := if p3 = 0 then N_X3_addHeard_41 f0 g0 (us (us a0 17 (F_put 6 (a0 17) (f0 7) p1)) 18 (F_put 6 ((us a0 17 (F_put 6 (a0 17) (f0 7) p1)) 18) (f0 7) p2)) 0 (f0 7) else N_X3_addHeard_41 f0 g0 (us (us a0 17 (F_put 6 (a0 17) (f0 7) p1)) 18 (F_put 6 ((us a0 17 (F_put 6 (a0 17) (f0 7) p1)) 18) (f0 7) p2)) 1 (f0 7)
set_option maxHeartbeats 4000000 in
set_option maxRecDepth 100000 in
theorem c_X3_addHeard (l : Launch) (hz : Nat) (D : va_G) (ad : Nat → Nat) (ck : Nat → ClassId) (f0 : Nat → Int32) (g0 : Nat → Int64) (a0 : Nat → Nat → Int32) (p1 : Int32) (p2 : Int32) (p3 : Int32) (out : ST) (hF : F_X3_addHeard f0 g0 a0 p1 p2 p3 = some out) : Met l yX3_addHeard wsX3_addHeard ({ frames := 1, cells := 0, slots := 0, locals := 22 }) (kW hz D vwCl (tX ck) (wX ad ck f0 g0 a0) [.ref (ad 3), .int p1, .int p2, .int p3]) (kQ D vwCl none (wX ad ck f0 g0 a0) (wX ad ck out.1 out.2.1 out.2.2)) 0 0 (kAd (wX ad ck f0 g0 a0)) := by
  refine Met.ofW (cc := cX3_addHeard) (maxL := 4) (ret := none) (by decide) rfl ?_
  intro p e s m args below meth c s₁ B hml hv
  obtain ⟨rfl, hP, hE, hD0⟩ := hv
  have hx := B.exec
  have hb := B.bytes
  have hr := B.returns
  have hts := atoms_spec (ws := wsX3_addHeard) B.pre
  have hown : s.vm.findClass RX3 = some m.cls := findClass_of_methodNamed B.named
  have hlocks := B.notSynchronized
  have hK := hE.1
  have hnA := kAd_up hD0
  have hD := kD_self hD0
  have hS : va_S (kAd (wX ad ck f0 g0 a0)) s.heap s.heap [] := va_S.rf
  have hiX3 : ∀ w ∈ u_ws RX3 TX3 10, w ∈ wsX3_addHeard := by decide +kernel
  have hf21 := hts (.fieldLink RX3 21 "SpeltByFriends$Ledger" "heardOf" "[I") (by decide +kernel)
  have hf24 := hts (.fieldLink RX3 24 "SpeltByFriends$Ledger" "heardIn" "[I") (by decide +kernel)
  have hf27 := hts (.fieldLink RX3 27 "SpeltByFriends$Ledger" "heardYes" "[I") (by decide +kernel)
  have hf38 := hts (.fieldLink RX3 38 "SpeltByFriends$Ledger" "heard" "I") (by decide +kernel)
  have hN_41 : ∀ (f41 : Nat → Int32) (g41 : Nat → Int64) (a41 : Nat → Nat → Int32) (H : Heap) (locs : List Loc) (t0_41 : Int32) (t1_41 : Int32) (ls : Array Slot), va_P D vwCl (wX ad ck f41 g41 a41) H → va_D (kAd (wX ad ck f0 g0 a0)) (wX ad ck f41 g41 a41) → va_S (kAd (wX ad ck f0 g0 a0)) s.heap H locs → lv_has ls 4 [(0, .ref (ad 3))] → ∀ r : ST, N_X3_addHeard_41 f41 g41 a41 t0_41 t1_41 = some r → (fun r => r = out) r → W p l e (headSpec wsX3_addHeard ({ frames := 1, cells := 0, slots := 0, locals := 22 })).room s m [.ref (ad 3), .int p1, .int p2, .int p3].toArray below meth c H locs 0 0 (MQ below (kQ D vwCl none (wX ad ck f0 g0 a0) (wX ad ck out.1 out.2.1 out.2.2)) [.ref (ad 3), .int p1, .int p2, .int p3].toArray s 0 0 (kAd (wX ad ck f0 g0 a0))) (F0 m 41 ls [.int t0_41, .int t1_41, .ref (ad 19)]) := by
    intro f41 g41 a41 H locs t0_41 t1_41 ls hP hD hS hl r hF hp
    unfold N_X3_addHeard_41 at hF
    refine kS_w (va_runSN (As := [.ref (ad 19), .int t1_41, .int t0_41]) (rest := []) ⟨hx, hb, hml, hown, hts⟩ (c_X11_put l hz D (tX ck) (wX ad ck f41 g41 a41) 19 6 rfl rfl (by decide) t1_41 t0_41) ⟨va_cnB 3 hts gX3_addHeard_X11_put_n30 rfl rfl rfl (hE.2.1 _ knX3_30) (hts (.initialized RX11) (by decide +kernel)) pX11_put ⟨Nat.le_of_ble_eq_true rfl, Nat.le_of_ble_eq_true rfl⟩, hts (.static yX11_put) (by decide +kernel), trivial⟩ (kW.preS hP (hE.kept hS hnA) hD hnA) rfl rfl hl.1 rfl (lv_room (Nat.le_of_ble_eq_true rfl)) dX3_addHeard_41 ⟨Nat.le_refl _, Nat.le_refl _⟩) hD hS (kSet_fst rfl) (fun H locs hP hD hS => ?_)
    have hP := kPe (es_wX19 ad ck f41 g41 a41 (F_put 6 (a41 19) t1_41 t0_41)) hP
    have hD := kDe (es_wX19 ad ck f41 g41 a41 (F_put 6 (a41 19) t1_41 t0_41)) hD
    refine lv_aload_n hx hb dX3_addHeard_44 rfl (lv_at hl 0 rfl) ?_
    refine lv_dup hx hb dX3_addHeard_45 rfl ?_
    refine va_get (D := D) (ci := 3) (v := .int (f41 7)) (C := RX3) (T := TX3) (N := 10) hx hb hts hiX3 hown hK hP 3 rfl rfl 7 (by decide) hf38 (fun _ h9 => h9) rfl dX3_addHeard_46 ?_
    refine lv_iconst (v := 1) hx hb dX3_addHeard_49 (by decide) ?_
    refine lv_iadd hx hb dX3_addHeard_50 ?_
    refine va_put (D := D) (ci := 3) (v := .int ((f41 7) + (1 : Int32))) (ty := .int) (C := RX3) (T := TX3) (N := 10) hx hb hts hiX3 tyX3 tyX3_ok nmX3 hown hK hP hD hS 3 rfl rfl 7 (by decide) hf38 (fun _ h9 => h9) rfl (tyX3_ok 7 (by decide)) rfl rfl (Nat.le_of_ble_eq_true rfl) dX3_addHeard_51 (fun H locs hP hD hS => ?_)
    have hP := kPe (ef_wX3_7 ad ck f41 g41 (us a41 19 (F_put 6 (a41 19) t1_41 t0_41)) ((f41 7) + (1 : Int32))) hP
    have hD := kDe (ef_wX3_7 ad ck f41 g41 (us a41 19 (F_put 6 (a41 19) t1_41 t0_41)) ((f41 7) + (1 : Int32))) hD
    have hF := (Option.some.inj hF).trans hp
    subst hF
    exact W.vret hx hb hr (fun t ht hW => ⟨rfl, by rw [ht]; exact hP, hS.F ht⟩) hS.2.2 dX3_addHeard_54
  have hl := lv_entry ([.ref (ad 3), .int p1, .int p2, .int p3]) (n := 4) (Nat.le_of_ble_eq_true rfl)
  rw [lg_entry_eq]
  generalize (lg_sl ([.ref (ad 3), .int p1, .int p2, .int p3]) ++ List.replicate (4 - (lg_sl ([.ref (ad 3), .int p1, .int p2, .int p3])).length) Slot.unset).toArray = ls at hl ⊢
  have hl : lv_has ls 4 [(0, .ref (ad 3)), (1, .int p1), (2, .int p2), (3, .int p3)] := hl
  obtain ⟨r, hF, hp⟩ : ∃ r, F_X3_addHeard f0 g0 a0 p1 p2 p3 = some r ∧ r = out := ⟨out, hF, rfl⟩
  unfold F_X3_addHeard at hF
  refine lv_aload_n hx hb dX3_addHeard_0 rfl (lv_at hl 0 rfl) ?_
  refine va_get (D := D) (ci := 3) (v := .ref (ad 17)) (C := RX3) (T := TX3) (N := 10) hx hb hts hiX3 hown hK hP 3 rfl rfl 3 (by decide) hf21 (fun _ h9 => h9) rfl dX3_addHeard_1 ?_
  refine lv_aload_n hx hb dX3_addHeard_4 rfl (lv_at hl 0 rfl) ?_
  refine va_get (D := D) (ci := 3) (v := .int (f0 7)) (C := RX3) (T := TX3) (N := 10) hx hb hts hiX3 hown hK hP 3 rfl rfl 7 (by decide) hf38 (fun _ h9 => h9) rfl dX3_addHeard_5 ?_
  refine lv_iload_n hx hb dX3_addHeard_8 rfl (lv_at hl 1 rfl) ?_
  refine kS_w (va_runSN (As := [.ref (ad 17), .int (f0 7), .int p1]) (rest := []) ⟨hx, hb, hml, hown, hts⟩ (c_X11_put l hz D (tX ck) (wX ad ck f0 g0 a0) 17 4 rfl rfl (by decide) (f0 7) p1) ⟨va_cnB 3 hts gX3_addHeard_X11_put_n30 rfl rfl rfl (hE.2.1 _ knX3_30) (hts (.initialized RX11) (by decide +kernel)) pX11_put ⟨Nat.le_of_ble_eq_true rfl, Nat.le_of_ble_eq_true rfl⟩, hts (.static yX11_put) (by decide +kernel), trivial⟩ (kW.preS hP (hE.kept hS hnA) hD hnA) rfl rfl hl.1 rfl (lv_room (Nat.le_of_ble_eq_true rfl)) dX3_addHeard_9 ⟨Nat.le_refl _, Nat.le_refl _⟩) hD hS (kSet_fst rfl) (fun H locs hP hD hS => ?_)
  have hP := kPe (es_wX17 ad ck f0 g0 a0 (F_put 6 (a0 17) (f0 7) p1)) hP
  have hD := kDe (es_wX17 ad ck f0 g0 a0 (F_put 6 (a0 17) (f0 7) p1)) hD
  refine lv_aload_n hx hb dX3_addHeard_12 rfl (lv_at hl 0 rfl) ?_
  refine va_get (D := D) (ci := 3) (v := .ref (ad 18)) (C := RX3) (T := TX3) (N := 10) hx hb hts hiX3 hown hK hP 3 rfl rfl 4 (by decide) hf24 (fun _ h9 => h9) rfl dX3_addHeard_13 ?_
  refine lv_aload_n hx hb dX3_addHeard_16 rfl (lv_at hl 0 rfl) ?_
  refine va_get (D := D) (ci := 3) (v := .int (f0 7)) (C := RX3) (T := TX3) (N := 10) hx hb hts hiX3 hown hK hP 3 rfl rfl 7 (by decide) hf38 (fun _ h9 => h9) rfl dX3_addHeard_17 ?_
  refine lv_iload_n hx hb dX3_addHeard_20 rfl (lv_at hl 2 rfl) ?_
  refine kS_w (va_runSN (As := [.ref (ad 18), .int (f0 7), .int p2]) (rest := []) ⟨hx, hb, hml, hown, hts⟩ (c_X11_put l hz D (tX ck) (wX ad ck f0 g0 (us a0 17 (F_put 6 (a0 17) (f0 7) p1))) 18 5 rfl rfl (by decide) (f0 7) p2) ⟨va_cnB 3 hts gX3_addHeard_X11_put_n30 rfl rfl rfl (hE.2.1 _ knX3_30) (hts (.initialized RX11) (by decide +kernel)) pX11_put ⟨Nat.le_of_ble_eq_true rfl, Nat.le_of_ble_eq_true rfl⟩, hts (.static yX11_put) (by decide +kernel), trivial⟩ (kW.preS hP (hE.kept hS hnA) hD hnA) rfl rfl hl.1 rfl (lv_room (Nat.le_of_ble_eq_true rfl)) dX3_addHeard_21 ⟨Nat.le_refl _, Nat.le_refl _⟩) hD hS (kSet_fst rfl) (fun H locs hP hD hS => ?_)
  have hP := kPe (es_wX18 ad ck f0 g0 (us a0 17 (F_put 6 (a0 17) (f0 7) p1)) (F_put 6 ((us a0 17 (F_put 6 (a0 17) (f0 7) p1)) 18) (f0 7) p2)) hP
  have hD := kDe (es_wX18 ad ck f0 g0 (us a0 17 (F_put 6 (a0 17) (f0 7) p1)) (F_put 6 ((us a0 17 (F_put 6 (a0 17) (f0 7) p1)) 18) (f0 7) p2)) hD
  refine lv_aload_n hx hb dX3_addHeard_24 rfl (lv_at hl 0 rfl) ?_
  refine va_get (D := D) (ci := 3) (v := .ref (ad 19)) (C := RX3) (T := TX3) (N := 10) hx hb hts hiX3 hown hK hP 3 rfl rfl 5 (by decide) hf27 (fun _ h9 => h9) rfl dX3_addHeard_25 ?_
  refine lv_aload_n hx hb dX3_addHeard_28 rfl (lv_at hl 0 rfl) ?_
  refine va_get (D := D) (ci := 3) (v := .int (f0 7)) (C := RX3) (T := TX3) (N := 10) hx hb hts hiX3 hown hK hP 3 rfl rfl 7 (by decide) hf38 (fun _ h9 => h9) rfl dX3_addHeard_29 ?_
  refine lv_iload_n hx hb dX3_addHeard_32 rfl (lv_at hl 3 rfl) ?_
  refine lv_if_eq (tgt := 40) hx hb dX3_addHeard_33 (by decide) (fun hc1 => ?_) (fun hc1 => ?_)
  · have hF := it_p hc1 hF
    refine lv_iconst (v := 0) hx hb dX3_addHeard_40 (by decide) ?_
    exact hN_41 f0 g0 (us (us a0 17 (F_put 6 (a0 17) (f0 7) p1)) 18 (F_put 6 ((us a0 17 (F_put 6 (a0 17) (f0 7) p1)) 18) (f0 7) p2)) _ _ 0 (f0 7) ls hP hD hS (lv_sub hl [0] rfl) _ hF hp
  · have hF := it_n hc1 hF
    refine lv_iconst (v := 1) hx hb dX3_addHeard_36 (by decide) ?_
    refine lv_goto (tgt := 41) hx hb dX3_addHeard_37 (by decide) ?_
    exact hN_41 f0 g0 (us (us a0 17 (F_put 6 (a0 17) (f0 7) p1)) 18 (F_put 6 ((us a0 17 (F_put 6 (a0 17) (f0 7) p1)) 18) (f0 7) p2)) _ _ 1 (f0 7) ls hP hD hS (lv_sub hl [0] rfl) _ hF hp
