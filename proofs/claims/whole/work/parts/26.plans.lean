/-! ===== the class, by program (tools/gen.py) ===== -/
def N_X7_planMoves_81 (f81 : Nat → Int32) (g81 : Nat → Int64) (a81 : Nat → Nat → Int32) (x2_16 : Int32) (x3_16 : Int32) (x4_81 : Int32) (x5_81 : Int32) : Option ((Int32 × Int32 × ST) ⊕ (Int32 × ST)) := some (.inl (x4_81, (x5_81 + 1), f81, g81, a81))
def B_X7_planMoves_16 (f16 : Nat → Int32) (g16 : Nat → Int64) (a16 : Nat → Nat → Int32) (x2_16 : Int32) (x3_16 : Int32) (x4_16 : Int32) (x5_16 : Int32) : Option ((Int32 × Int32 × ST) ⊕ (Int32 × ST)) := if ((1 : Int32) <<< (((2 : Int32) * (f16 5)) &&& 31)) ≤ x5_16 then Option.map Sum.inr (if x4_16 ≤ 5 then some (x4_16, f16, g16, a16) else some ((-1), f16, g16, a16)) else if x4_16 ≤ (F_X7_howManyDiffer (x5_16 <<< (x3_16 &&& 31)) (f16 6)) then N_X7_planMoves_81 f16 g16 a16 x2_16 x3_16 x4_16 x5_16 else (F_X9_companyIn f16 g16 a16 (x5_16 <<< (x3_16 &&& 31)) x2_16).bind fun r4 => if (F_X9_canWrite f16 g16 a16 x2_16 r4) = 0 then N_X7_planMoves_81 f16 g16 a16 x2_16 x3_16 x4_16 x5_16 else N_X7_planMoves_81 (upd f16 15 (x5_16 <<< (x3_16 &&& 31))) g16 a16 x2_16 x3_16 (F_X7_howManyDiffer (x5_16 <<< (x3_16 &&& 31)) (f16 6)) x5_16
def N_X7_planMoves_16 (f16 : Nat → Int32) (g16 : Nat → Int64) (a16 : Nat → Nat → Int32) (x2_16 : Int32) (x3_16 : Int32) (x4_16 : Int32) (x5_16 : Int32) : Option (Int32 × ST) := lpN (fun q16 : (Int32 × Int32 × ST) => B_X7_planMoves_16 q16.2.2.1 q16.2.2.2.1 q16.2.2.2.2 x2_16 x3_16 q16.1 q16.2.1) kFu (x4_16, x5_16, f16, g16, a16)
def F_X7_planMoves (f0 : Nat → Int32) (g0 : Nat → Int64) (a0 : Nat → Nat → Int32) (p2 : Int32) : Option (Int32 × ST) := N_X7_planMoves_16 f0 g0 a0 p2 ((2 : Int32) * ((5 : Int32) - (f0 5))) 6 0
set_option maxHeartbeats 4000000 in
set_option maxRecDepth 100000 in
theorem c_X7_planMoves (l : Launch) (hz : Nat) (D : va_G) (ad : Nat → Nat) (ck : Nat → ClassId) (f0 : Nat → Int32) (g0 : Nat → Int64) (a0 : Nat → Nat → Int32) (p2 : Int32) (out : (Int32 × ST)) (hF : F_X7_planMoves f0 g0 a0 p2 = some out) : Met l yX7_planMoves wsX7_planMoves ({ frames := 4, cells := 0, slots := 0, locals := 94 }) (kW hz D vwCl (tX ck) (wX ad ck f0 g0 a0) [.ref (ad 5), .ref (ad 2), .int p2]) (kQ D vwCl (some (.int out.1)) (wX ad ck f0 g0 a0) (wX ad ck out.2.1 out.2.2.1 out.2.2.2)) 0 0 (kAd (wX ad ck f0 g0 a0)) := by
  refine Met.ofW (cc := cX7_planMoves) (maxL := 8) (ret := (some .int)) (by decide) rfl ?_
  intro p e s m args below meth c s₁ B hml hv
  obtain ⟨rfl, hP, hE, hD0⟩ := hv
  have hx := B.exec
  have hb := B.bytes
  have hr := B.returns
  have hts := atoms_spec (ws := wsX7_planMoves) B.pre
  have hown : s.vm.findClass RX7 = some m.cls := findClass_of_methodNamed B.named
  have hlocks := B.notSynchronized
  have hK := hE.1
  have hnA := kAd_up hD0
  have hD := kD_self hD0
  have hS : va_S (kAd (wX ad ck f0 g0 a0)) s.heap s.heap [] := va_S.rf
  have hiX3 : ∀ w ∈ u_ws RX3 TX3 10, w ∈ wsX7_planMoves := by decide +kernel
  have hiX7 : ∀ w ∈ u_ws RX7 TX7 4, w ∈ wsX7_planMoves := by decide +kernel
  have hiX9 : ∀ w ∈ u_ws RX9 TX9 4, w ∈ wsX7_planMoves := by decide +kernel
  have hf18 := hts (.fieldLink RX7 18 "SpeltByFriends$Town" "size" "I") (by decide +kernel)
  have hf24 := hts (.fieldLink RX7 24 "SpeltByFriends$Town" "ledger" "LSpeltByFriends$Ledger;") (by decide +kernel)
  have hf28 := hts (.fieldLink RX7 28 "SpeltByFriends$Ledger" "rooms" "I") (by decide +kernel)
  have hf44 := hts (.fieldLink RX7 44 "SpeltByFriends$Plans" "bestRooms" "I") (by decide +kernel)
  have hN_16 : ∀ (x2_16 : Int32) (x3_16 : Int32) (n16 : Nat) (f16 : Nat → Int32) (g16 : Nat → Int64) (a16 : Nat → Nat → Int32) (H : Heap) (locs : List Loc) (x4_16 : Int32) (x5_16 : Int32) (ls : Array Slot), va_P D vwCl (wX ad ck f16 g16 a16) H → va_D (kAd (wX ad ck f0 g0 a0)) (wX ad ck f16 g16 a16) → va_S (kAd (wX ad ck f0 g0 a0)) s.heap H locs → lv_has ls 8 [(0, .ref (ad 5)), (1, .ref (ad 2)), (2, .int x2_16), (3, .int x3_16), (4, .int x4_16), (5, .int x5_16)] → ∀ r : (Int32 × ST), lpN (fun q16 : (Int32 × Int32 × ST) => B_X7_planMoves_16 q16.2.2.1 q16.2.2.2.1 q16.2.2.2.2 x2_16 x3_16 q16.1 q16.2.1) n16 (x4_16, x5_16, f16, g16, a16) = some r → (fun r => r = out) r → W p l e (headSpec wsX7_planMoves ({ frames := 4, cells := 0, slots := 0, locals := 94 })).room s m [.ref (ad 5), .ref (ad 2), .int p2].toArray below meth c H locs 0 0 (MQ below (kQ D vwCl (some (.int out.1)) (wX ad ck f0 g0 a0) (wX ad ck out.2.1 out.2.2.1 out.2.2.2)) [.ref (ad 5), .ref (ad 2), .int p2].toArray s 0 0 (kAd (wX ad ck f0 g0 a0))) (F0 m 16 ls []) := by
    intro x2_16 x3_16 n16
    induction n16 with
    | zero => intro f16 g16 a16 H locs x4_16 x5_16 ls hP hD hS hl r hF hp; exact (lp_z hF).elim
    | succ n16 ih16 =>
      intro f16 g16 a16 H locs x4_16 x5_16 ls hP hD hS hl r hF hp
      obtain ⟨rs, hF, hp⟩ := lpN_K (P := (fun r => r = out)) hF hp
      have hN_81 : ∀ (f81 : Nat → Int32) (g81 : Nat → Int64) (a81 : Nat → Nat → Int32) (H : Heap) (locs : List Loc) (x4_81 : Int32) (x5_81 : Int32) (ls : Array Slot), va_P D vwCl (wX ad ck f81 g81 a81) H → va_D (kAd (wX ad ck f0 g0 a0)) (wX ad ck f81 g81 a81) → va_S (kAd (wX ad ck f0 g0 a0)) s.heap H locs → lv_has ls 8 [(0, .ref (ad 5)), (1, .ref (ad 2)), (2, .int x2_16), (3, .int x3_16), (4, .int x4_81), (5, .int x5_81)] → ∀ r : ((Int32 × Int32 × ST) ⊕ (Int32 × ST)), N_X7_planMoves_81 f81 g81 a81 x2_16 x3_16 x4_81 x5_81 = some r → (lpK (fun q16 : (Int32 × Int32 × ST) => B_X7_planMoves_16 q16.2.2.1 q16.2.2.2.1 q16.2.2.2.2 x2_16 x3_16 q16.1 q16.2.1) n16 (fun r => r = out)) r → W p l e (headSpec wsX7_planMoves ({ frames := 4, cells := 0, slots := 0, locals := 94 })).room s m [.ref (ad 5), .ref (ad 2), .int p2].toArray below meth c H locs 0 0 (MQ below (kQ D vwCl (some (.int out.1)) (wX ad ck f0 g0 a0) (wX ad ck out.2.1 out.2.2.1 out.2.2.2)) [.ref (ad 5), .ref (ad 2), .int p2].toArray s 0 0 (kAd (wX ad ck f0 g0 a0))) (F0 m 81 ls []) := by
        intro f81 g81 a81 H locs x4_81 x5_81 ls hP hD hS hl r hF hp
        unfold N_X7_planMoves_81 at hF
        refine lv_iinc (v := (x5_81 + 1)) (lv' := [(5, .int (x5_81 + 1)), (0, .ref (ad 5)), (1, .ref (ad 2)), (2, .int x2_16), (3, .int x3_16), (4, .int x4_81)]) hx hb dX7_planMoves_81 hl (k := 5) rfl rfl (by decide) rfl (fun ls hl => ?_)
        refine lv_goto (tgt := 16) hx hb dX7_planMoves_84 (by decide) ?_
        have hF := Option.some.inj hF
        subst hF
        obtain ⟨r, hF, hp⟩ := hp
        exact ih16 f81 g81 a81 _ _ x4_81 (x5_81 + 1) ls hP hD hS (lv_sub hl [1, 2, 3, 4, 5, 0] rfl) r hF hp
      unfold B_X7_planMoves_16 at hF
      refine lv_iload hx hb dX7_planMoves_16 (lv_at hl 5 rfl) ?_
      refine lv_iconst (v := 1) hx hb dX7_planMoves_18 (by decide) ?_
      refine lv_iconst (v := 2) hx hb dX7_planMoves_19 (by decide) ?_
      refine lv_aload_n hx hb dX7_planMoves_20 rfl (lv_at hl 1 rfl) ?_
      refine va_get (D := D) (ci := 9) (v := .int (f16 5)) (C := RX9) (T := TX9) (N := 4) hx hb hts hiX9 hown hK hP 2 rfl rfl 3 (by decide) hf18 (fun _ h9 => h9) rfl dX7_planMoves_21 ?_
      refine lv_imul hx hb dX7_planMoves_24 ?_
      refine lv_ishl hx hb dX7_planMoves_25 ?_
      refine lv_icmp_ge (tgt := 87) hx hb dX7_planMoves_26 (by decide) (fun hc1 => ?_) (fun hc1 => ?_)
      · have hF := it_p hc1 hF
        obtain ⟨r, hF1, hr0⟩ := mp_s hF
        clear hF
        subst hr0
        have hF := hF1
        clear hF1
        have hp : (fun r => r = out) r := hp
        refine lv_iload hx hb dX7_planMoves_87 (lv_at hl 4 rfl) ?_
        refine lv_iconst (v := 5) hx hb dX7_planMoves_89 (by decide) ?_
        refine lv_icmp_le (tgt := 97) hx hb dX7_planMoves_90 (by decide) (fun hc2 => ?_) (fun hc2 => ?_)
        · have hF := it_p hc2 hF
          refine lv_iload hx hb dX7_planMoves_97 (lv_at hl 4 rfl) ?_
          have hF := (Option.some.inj hF).trans hp
          subst hF
          exact W.iret hx hb hr (fun t ht hW => ⟨rfl, by rw [ht]; exact hP, hS.F ht⟩) hS.2.2 dX7_planMoves_99
        · have hF := it_n hc2 hF
          refine lv_iconst (v := (-1)) hx hb dX7_planMoves_93 (by decide) ?_
          refine lv_goto (tgt := 99) hx hb dX7_planMoves_94 (by decide) ?_
          have hF := (Option.some.inj hF).trans hp
          subst hF
          exact W.iret hx hb hr (fun t ht hW => ⟨rfl, by rw [ht]; exact hP, hS.F ht⟩) hS.2.2 dX7_planMoves_99
      · have hF := it_n hc1 hF
        refine lv_iload hx hb dX7_planMoves_29 (lv_at hl 5 rfl) ?_
        refine lv_iload_n hx hb dX7_planMoves_31 rfl (lv_at hl 3 rfl) ?_
        refine lv_ishl hx hb dX7_planMoves_32 ?_
        refine lv_istore (lv' := [(6, .int (x5_16 <<< (x3_16 &&& 31))), (0, .ref (ad 5)), (1, .ref (ad 2)), (2, .int x2_16), (3, .int x3_16), (4, .int x4_16), (5, .int x5_16)]) hx hb dX7_planMoves_33 hl (by decide) rfl (fun ls hl => ?_)
        refine lv_iload hx hb dX7_planMoves_35 (lv_at hl 0 rfl) ?_
        refine lv_aload_n hx hb dX7_planMoves_37 rfl (lv_at hl 2 rfl) ?_
        refine va_get (D := D) (ci := 9) (v := .ref (ad 3)) (C := RX9) (T := TX9) (N := 4) hx hb hts hiX9 hown hK hP 2 rfl rfl 0 (by decide) hf24 (fun _ h9 => h9) rfl dX7_planMoves_38 ?_
        refine va_get (D := D) (ci := 3) (v := .int (f16 6)) (C := RX3) (T := TX3) (N := 10) hx hb hts hiX3 hown hK hP 3 rfl rfl 6 (by decide) hf28 (fun _ h9 => h9) rfl dX7_planMoves_41 ?_
        refine kS_i (va_runS (As := [.int (x5_16 <<< (x3_16 &&& 31)), .int (f16 6)]) (rest := []) ⟨hx, hb, hml, hown, hts⟩ (c_X7_howManyDiffer l hz D (tX ck) (x5_16 <<< (x3_16 &&& 31)) (f16 6)) (va_cwS 2 hts gX7_planMoves_X7_howManyDiffer rfl rfl rfl pX7_howManyDiffer ⟨Nat.le_of_ble_eq_true rfl, Nat.le_of_ble_eq_true rfl⟩) (kR.preS kP_nil (hE.kept hS hnA)) rfl rfl hl.1 rfl (lv_room (Nat.le_of_ble_eq_true rfl)) dX7_planMoves_44 ⟨Nat.le_refl _, Nat.le_refl _⟩) ?_
        refine lv_istore (lv' := [(7, .int (F_X7_howManyDiffer (x5_16 <<< (x3_16 &&& 31)) (f16 6))), (6, .int (x5_16 <<< (x3_16 &&& 31))), (0, .ref (ad 5)), (1, .ref (ad 2)), (2, .int x2_16), (3, .int x3_16), (4, .int x4_16), (5, .int x5_16)]) hx hb dX7_planMoves_47 hl (by decide) rfl (fun ls hl => ?_)
        refine lv_iload hx hb dX7_planMoves_49 (lv_at hl 0 rfl) ?_
        refine lv_iload hx hb dX7_planMoves_51 (lv_at hl 6 rfl) ?_
        refine lv_icmp_ge (tgt := 81) hx hb dX7_planMoves_53 (by decide) (fun hc3 => ?_) (fun hc3 => ?_)
        · have hF := it_p hc3 hF
          exact hN_81 f16 g16 a16 _ _ x4_16 x5_16 ls hP hD hS (lv_sub hl [2, 3, 4, 5, 6, 7] rfl) _ hF hp
        · have hF := it_n hc3 hF
          refine lv_aload_n hx hb dX7_planMoves_56 rfl (lv_at hl 3 rfl) ?_
          refine lv_iload_n hx hb dX7_planMoves_57 rfl (lv_at hl 4 rfl) ?_
          refine lv_aload_n hx hb dX7_planMoves_58 rfl (lv_at hl 3 rfl) ?_
          refine lv_iload hx hb dX7_planMoves_59 (lv_at hl 1 rfl) ?_
          refine lv_iload_n hx hb dX7_planMoves_61 rfl (lv_at hl 4 rfl) ?_
          obtain ⟨r4, he4, hF⟩ := bd_s hF
          refine kS_i (va_runV (As := [.int (x5_16 <<< (x3_16 &&& 31)), .int x2_16]) (rest := [.int x2_16, .ref (ad 2)]) ⟨hx, hb, hml, hown, hts⟩ (c_X9_companyIn l hz D ad ck f16 g16 a16 (x5_16 <<< (x3_16 &&& 31)) x2_16 r4 he4) (cwV 2 hts gX7_planMoves_X9_companyIn rfl rfl rfl ⟨rfl, pX9_companyIn⟩ ⟨Nat.le_of_ble_eq_true rfl, Nat.le_of_ble_eq_true rfl⟩) (kR.preV (va_recv hK hP (ci := 9) (q0 := 2) rfl rfl) hP (hE.kept hS hnA)) rfl rfl hl.1 rfl (lv_room (Nat.le_of_ble_eq_true rfl)) dX7_planMoves_62 ⟨Nat.le_refl _, Nat.le_refl _⟩) ?_
          refine kS_b (va_runV (As := [.int x2_16, .int r4]) (rest := []) ⟨hx, hb, hml, hown, hts⟩ (c_X9_canWrite l hz D ad ck f16 g16 a16 x2_16 r4) (cwV 2 hts gX7_planMoves_X9_canWrite rfl rfl rfl ⟨rfl, pX9_canWrite⟩ ⟨Nat.le_of_ble_eq_true rfl, Nat.le_of_ble_eq_true rfl⟩) (kR.preV (va_recv hK hP (ci := 9) (q0 := 2) rfl rfl) hP (hE.kept hS hnA)) rfl rfl hl.1 rfl (lv_room (Nat.le_of_ble_eq_true rfl)) dX7_planMoves_65 ⟨Nat.le_refl _, Nat.le_refl _⟩) (fun hz5 => ?_)
          refine lv_if_eq (tgt := 81) hx hb dX7_planMoves_68 (by decide) (fun hc6 => ?_) (fun hc6 => ?_)
          · have hF := it_p hc6 hF
            exact hN_81 f16 g16 a16 _ _ x4_16 x5_16 ls hP hD hS (lv_sub hl [2, 3, 4, 5, 6, 7] rfl) _ hF hp
          · have hF := it_n hc6 hF
            refine lv_iload hx hb dX7_planMoves_71 (lv_at hl 0 rfl) ?_
            refine lv_istore (lv' := [(4, .int (F_X7_howManyDiffer (x5_16 <<< (x3_16 &&& 31)) (f16 6))), (7, .int (F_X7_howManyDiffer (x5_16 <<< (x3_16 &&& 31)) (f16 6))), (6, .int (x5_16 <<< (x3_16 &&& 31))), (0, .ref (ad 5)), (1, .ref (ad 2)), (2, .int x2_16), (3, .int x3_16), (5, .int x5_16)]) hx hb dX7_planMoves_73 hl (by decide) rfl (fun ls hl => ?_)
            refine lv_aload_n hx hb dX7_planMoves_75 rfl (lv_at hl 3 rfl) ?_
            refine lv_iload hx hb dX7_planMoves_76 (lv_at hl 2 rfl) ?_
            refine va_put (D := D) (ci := 7) (v := .int (x5_16 <<< (x3_16 &&& 31))) (ty := .int) (C := RX7) (T := TX7) (N := 4) hx hb hts hiX7 tyX7 tyX7_ok nmX7 hown hK hP hD hS 5 rfl rfl 3 (by decide) hf44 (fun _ h9 => h9) rfl (tyX7_ok 3 (by decide)) rfl rfl (Nat.le_of_ble_eq_true rfl) dX7_planMoves_78 (fun H locs hP hD hS => ?_)
            have hP := kPe (ef_wX5_3 ad ck f16 g16 a16 (x5_16 <<< (x3_16 &&& 31))) hP
            have hD := kDe (ef_wX5_3 ad ck f16 g16 a16 (x5_16 <<< (x3_16 &&& 31))) hD
            exact hN_81 (upd f16 15 (x5_16 <<< (x3_16 &&& 31))) g16 a16 _ _ (F_X7_howManyDiffer (x5_16 <<< (x3_16 &&& 31)) (f16 6)) x5_16 ls hP hD hS (lv_sub hl [3, 4, 5, 6, 0, 7] rfl) _ hF hp
  have hl := lv_entry ([.ref (ad 5), .ref (ad 2), .int p2]) (n := 8) (Nat.le_of_ble_eq_true rfl)
  rw [lg_entry_eq]
  generalize (lg_sl ([.ref (ad 5), .ref (ad 2), .int p2]) ++ List.replicate (8 - (lg_sl ([.ref (ad 5), .ref (ad 2), .int p2])).length) Slot.unset).toArray = ls at hl ⊢
  have hl : lv_has ls 8 [(0, .ref (ad 5)), (1, .ref (ad 2)), (2, .int p2)] := hl
  obtain ⟨r, hF, hp⟩ : ∃ r, F_X7_planMoves f0 g0 a0 p2 = some r ∧ r = out := ⟨out, hF, rfl⟩
  unfold F_X7_planMoves at hF
  refine lv_iconst (v := 2) hx hb dX7_planMoves_0 (by decide) ?_
  refine lv_iconst (v := 5) hx hb dX7_planMoves_1 (by decide) ?_
  refine lv_aload_n hx hb dX7_planMoves_2 rfl (lv_at hl 1 rfl) ?_
  refine va_get (D := D) (ci := 9) (v := .int (f0 5)) (C := RX9) (T := TX9) (N := 4) hx hb hts hiX9 hown hK hP 2 rfl rfl 3 (by decide) hf18 (fun _ h9 => h9) rfl dX7_planMoves_3 ?_
  refine lv_isub hx hb dX7_planMoves_6 ?_
  refine lv_imul hx hb dX7_planMoves_7 ?_
  refine lv_istore_n (lv' := [(3, .int ((2 : Int32) * ((5 : Int32) - (f0 5)))), (0, .ref (ad 5)), (1, .ref (ad 2)), (2, .int p2)]) hx hb dX7_planMoves_8 rfl hl (by decide) rfl (fun ls hl => ?_)
  refine lv_bipush (v := 6) hx hb dX7_planMoves_9 (by decide) ?_
  refine lv_istore (lv' := [(4, .int 6), (3, .int ((2 : Int32) * ((5 : Int32) - (f0 5)))), (0, .ref (ad 5)), (1, .ref (ad 2)), (2, .int p2)]) hx hb dX7_planMoves_11 hl (by decide) rfl (fun ls hl => ?_)
  refine lv_iconst (v := 0) hx hb dX7_planMoves_13 (by decide) ?_
  refine lv_istore (lv' := [(5, .int 0), (4, .int 6), (3, .int ((2 : Int32) * ((5 : Int32) - (f0 5)))), (0, .ref (ad 5)), (1, .ref (ad 2)), (2, .int p2)]) hx hb dX7_planMoves_14 hl (by decide) rfl (fun ls hl => ?_)
  exact hN_16 p2 ((2 : Int32) * ((5 : Int32) - (f0 5))) kFu f0 g0 a0 _ _ 6 0 ls hP hD hS (lv_sub hl [3, 4, 5, 2, 1, 0] rfl) _ hF hp

def N_X7_whoIsWritten_31 (f0 : Nat → Int32) (g0 : Nat → Int64) (a0 : Nat → Nat → Int32) (x2_5 : Int32) (x3_31 : Int32) (x4_31 : Int32) : Option ((Int32 × Int32) ⊕ Int32) := some (.inl (x3_31, (x4_31 + 1)))
def B_X7_whoIsWritten_5 (f0 : Nat → Int32) (g0 : Nat → Int64) (a0 : Nat → Nat → Int32) (x2_5 : Int32) (x3_5 : Int32) (x4_5 : Int32) : Option ((Int32 × Int32) ⊕ Int32) := if (f0 5) ≤ x4_5 then Option.map Sum.inr (some x3_5) else if (F_X9_canWrite f0 g0 a0 x4_5 x2_5) = 0 then N_X7_whoIsWritten_31 f0 g0 a0 x2_5 x3_5 x4_5 else N_X7_whoIsWritten_31 f0 g0 a0 x2_5 (x3_5 ||| ((1 : Int32) <<< (x4_5 &&& 31))) x4_5
def N_X7_whoIsWritten_5 (f0 : Nat → Int32) (g0 : Nat → Int64) (a0 : Nat → Nat → Int32) (x2_5 : Int32) (x3_5 : Int32) (x4_5 : Int32) : Option Int32 := lpN (fun q5 : (Int32 × Int32) => B_X7_whoIsWritten_5 f0 g0 a0 x2_5 q5.1 q5.2) kFu (x3_5, x4_5)
def F_X7_whoIsWritten (f0 : Nat → Int32) (g0 : Nat → Int64) (a0 : Nat → Nat → Int32) (p2 : Int32) : Option Int32 := N_X7_whoIsWritten_5 f0 g0 a0 p2 0 0
set_option maxHeartbeats 4000000 in
set_option maxRecDepth 100000 in
theorem c_X7_whoIsWritten (l : Launch) (hz : Nat) (D : va_G) (ad : Nat → Nat) (ck : Nat → ClassId) (f0 : Nat → Int32) (g0 : Nat → Int64) (a0 : Nat → Nat → Int32) (p2 : Int32) (out : Int32) (hF : F_X7_whoIsWritten f0 g0 a0 p2 = some out) : Met l yX7_whoIsWritten wsX7_whoIsWritten ({ frames := 4, cells := 0, slots := 0, locals := 94 }) (kR hz D vwCl (tX ck) (wX ad ck f0 g0 a0) [.ref (ad 5), .ref (ad 2), .int p2]) (kZi out) 0 0 (fun _ => False) := by
  refine Met.ofW (cc := cX7_whoIsWritten) (maxL := 5) (ret := (some .int)) (by decide) rfl ?_
  intro p e s m args below meth c s₁ B hml hv
  obtain ⟨rfl, hP, hE⟩ := hv
  have hx := B.exec
  have hb := B.bytes
  have hr := B.returns
  have hts := atoms_spec (ws := wsX7_whoIsWritten) B.pre
  have hown : s.vm.findClass RX7 = some m.cls := findClass_of_methodNamed B.named
  have hlocks := B.notSynchronized
  have hK := hE.1
  have hiX9 : ∀ w ∈ u_ws RX9 TX9 4, w ∈ wsX7_whoIsWritten := by decide +kernel
  have hf18 := hts (.fieldLink RX7 18 "SpeltByFriends$Town" "size" "I") (by decide +kernel)
  have hN_5 : ∀ (x2_5 : Int32) (n5 : Nat) (x3_5 : Int32) (x4_5 : Int32) (ls : Array Slot), lv_has ls 5 [(1, .ref (ad 2)), (2, .int x2_5), (3, .int x3_5), (4, .int x4_5)] → ∀ r : Int32, lpN (fun q5 : (Int32 × Int32) => B_X7_whoIsWritten_5 f0 g0 a0 x2_5 q5.1 q5.2) n5 (x3_5, x4_5) = some r → (fun r => r = out) r → W p l e (headSpec wsX7_whoIsWritten ({ frames := 4, cells := 0, slots := 0, locals := 94 })).room s m [.ref (ad 5), .ref (ad 2), .int p2].toArray below meth c s.heap [] 0 0 (MQ below (kZi out) [.ref (ad 5), .ref (ad 2), .int p2].toArray s 0 0 (fun _ => False)) (F0 m 5 ls []) := by
    intro x2_5 n5
    induction n5 with
    | zero => intro x3_5 x4_5 ls hl r hF hp; exact (lp_z hF).elim
    | succ n5 ih5 =>
      intro x3_5 x4_5 ls hl r hF hp
      obtain ⟨rs, hF, hp⟩ := lpN_K (P := (fun r => r = out)) hF hp
      have hN_31 : ∀ (x3_31 : Int32) (x4_31 : Int32) (ls : Array Slot), lv_has ls 5 [(1, .ref (ad 2)), (2, .int x2_5), (3, .int x3_31), (4, .int x4_31)] → ∀ r : ((Int32 × Int32) ⊕ Int32), N_X7_whoIsWritten_31 f0 g0 a0 x2_5 x3_31 x4_31 = some r → (lpK (fun q5 : (Int32 × Int32) => B_X7_whoIsWritten_5 f0 g0 a0 x2_5 q5.1 q5.2) n5 (fun r => r = out)) r → W p l e (headSpec wsX7_whoIsWritten ({ frames := 4, cells := 0, slots := 0, locals := 94 })).room s m [.ref (ad 5), .ref (ad 2), .int p2].toArray below meth c s.heap [] 0 0 (MQ below (kZi out) [.ref (ad 5), .ref (ad 2), .int p2].toArray s 0 0 (fun _ => False)) (F0 m 31 ls []) := by
        intro x3_31 x4_31 ls hl r hF hp
        unfold N_X7_whoIsWritten_31 at hF
        refine lv_iinc (v := (x4_31 + 1)) (lv' := [(4, .int (x4_31 + 1)), (1, .ref (ad 2)), (2, .int x2_5), (3, .int x3_31)]) hx hb dX7_whoIsWritten_31 hl (k := 3) rfl rfl (by decide) rfl (fun ls hl => ?_)
        refine lv_goto (tgt := 5) hx hb dX7_whoIsWritten_34 (by decide) ?_
        have hF := Option.some.inj hF
        subst hF
        obtain ⟨r, hF, hp⟩ := hp
        exact ih5 x3_31 (x4_31 + 1) ls (lv_sub hl [1, 2, 3, 0] rfl) r hF hp
      unfold B_X7_whoIsWritten_5 at hF
      refine lv_iload hx hb dX7_whoIsWritten_5 (lv_at hl 3 rfl) ?_
      refine lv_aload_n hx hb dX7_whoIsWritten_7 rfl (lv_at hl 0 rfl) ?_
      refine va_get (D := D) (ci := 9) (v := .int (f0 5)) (C := RX9) (T := TX9) (N := 4) hx hb hts hiX9 hown hK hP 2 rfl rfl 3 (by decide) hf18 (fun _ h9 => h9) rfl dX7_whoIsWritten_8 ?_
      refine lv_icmp_ge (tgt := 37) hx hb dX7_whoIsWritten_11 (by decide) (fun hc1 => ?_) (fun hc1 => ?_)
      · have hF := it_p hc1 hF
        obtain ⟨r, hF1, hr0⟩ := mp_s hF
        clear hF
        subst hr0
        have hF := hF1
        clear hF1
        have hp : (fun r => r = out) r := hp
        refine lv_iload_n hx hb dX7_whoIsWritten_37 rfl (lv_at hl 2 rfl) ?_
        exact W.iret hx hb hr (fun t ht hW => ⟨_, rfl, (Option.some.inj hF).trans hp, ht⟩) (fun q hq => by cases hq) dX7_whoIsWritten_38
      · have hF := it_n hc1 hF
        refine lv_aload_n hx hb dX7_whoIsWritten_14 rfl (lv_at hl 0 rfl) ?_
        refine lv_iload hx hb dX7_whoIsWritten_15 (lv_at hl 3 rfl) ?_
        refine lv_iload_n hx hb dX7_whoIsWritten_17 rfl (lv_at hl 1 rfl) ?_
        refine kS_b (va_runV (As := [.int x4_5, .int x2_5]) (rest := []) ⟨hx, hb, hml, hown, hts⟩ (c_X9_canWrite l hz D ad ck f0 g0 a0 x4_5 x2_5) (cwV 2 hts gX7_whoIsWritten_X9_canWrite rfl rfl rfl ⟨rfl, pX9_canWrite⟩ ⟨Nat.le_of_ble_eq_true rfl, Nat.le_of_ble_eq_true rfl⟩) (kR.preV (va_recv hK hP (ci := 9) (q0 := 2) rfl rfl) hP hE) rfl rfl hl.1 rfl (lv_room (Nat.le_of_ble_eq_true rfl)) dX7_whoIsWritten_18 ⟨Nat.le_refl _, Nat.le_refl _⟩) (fun hz2 => ?_)
        refine lv_if_eq (tgt := 31) hx hb dX7_whoIsWritten_21 (by decide) (fun hc3 => ?_) (fun hc3 => ?_)
        · have hF := it_p hc3 hF
          exact hN_31 x3_5 x4_5 ls (lv_sub hl [0, 1, 2, 3] rfl) _ hF hp
        · have hF := it_n hc3 hF
          refine lv_iload_n hx hb dX7_whoIsWritten_24 rfl (lv_at hl 2 rfl) ?_
          refine lv_iconst (v := 1) hx hb dX7_whoIsWritten_25 (by decide) ?_
          refine lv_iload hx hb dX7_whoIsWritten_26 (lv_at hl 3 rfl) ?_
          refine lv_ishl hx hb dX7_whoIsWritten_28 ?_
          refine lv_ior hx hb dX7_whoIsWritten_29 ?_
          refine lv_istore_n (lv' := [(3, .int (x3_5 ||| ((1 : Int32) <<< (x4_5 &&& 31)))), (1, .ref (ad 2)), (2, .int x2_5), (4, .int x4_5)]) hx hb dX7_whoIsWritten_30 rfl hl (by decide) rfl (fun ls hl => ?_)
          exact hN_31 (x3_5 ||| ((1 : Int32) <<< (x4_5 &&& 31))) x4_5 ls (lv_sub hl [1, 2, 0, 3] rfl) _ hF hp
  have hl := lv_entry ([.ref (ad 5), .ref (ad 2), .int p2]) (n := 5) (Nat.le_of_ble_eq_true rfl)
  rw [lg_entry_eq]
  generalize (lg_sl ([.ref (ad 5), .ref (ad 2), .int p2]) ++ List.replicate (5 - (lg_sl ([.ref (ad 5), .ref (ad 2), .int p2])).length) Slot.unset).toArray = ls at hl ⊢
  have hl : lv_has ls 5 [(0, .ref (ad 5)), (1, .ref (ad 2)), (2, .int p2)] := hl
  obtain ⟨r, hF, hp⟩ : ∃ r, F_X7_whoIsWritten f0 g0 a0 p2 = some r ∧ r = out := ⟨out, hF, rfl⟩
  unfold F_X7_whoIsWritten at hF
  refine lv_iconst (v := 0) hx hb dX7_whoIsWritten_0 (by decide) ?_
  refine lv_istore_n (lv' := [(3, .int 0), (0, .ref (ad 5)), (1, .ref (ad 2)), (2, .int p2)]) hx hb dX7_whoIsWritten_1 rfl hl (by decide) rfl (fun ls hl => ?_)
  refine lv_iconst (v := 0) hx hb dX7_whoIsWritten_2 (by decide) ?_
  refine lv_istore (lv' := [(4, .int 0), (3, .int 0), (0, .ref (ad 5)), (1, .ref (ad 2)), (2, .int p2)]) hx hb dX7_whoIsWritten_3 hl (by decide) rfl (fun ls hl => ?_)
  exact hN_5 p2 kFu 0 0 ls (lv_sub hl [3, 4, 1, 0] rfl) _ hF hp

def N_X7_cover_3_11 (f11 : Nat → Int32) (g11 : Nat → Int64) (a11 : Nat → Nat → Int32) (x1_11 : Int32) : Option (Int32 × ST) := if x1_11 = 0 then some (1, f11, g11, a11) else some (0, f11, g11, a11)
def F_X7_cover_3 (f0 : Nat → Int32) (g0 : Nat → Int64) (a0 : Nat → Nat → Int32) (p1 : Int32) (p2 : Int32) (p4 : Int32) : Option (Int32 × ST) := if p4 ≤ 3 then N_X7_cover_3_11 f0 g0 a0 p1 else N_X7_cover_3_11 f0 g0 a0 p1
set_option maxHeartbeats 4000000 in
set_option maxRecDepth 100000 in
theorem c_X7_cover_3 (l : Launch) (hz : Nat) (D : va_G) (ad : Nat → Nat) (ck : Nat → ClassId) (f0 : Nat → Int32) (g0 : Nat → Int64) (a0 : Nat → Nat → Int32) (p1 : Int32) (p2 : Int32) (p4 : Int32) (out : (Int32 × ST)) (hF : F_X7_cover_3 f0 g0 a0 p1 p2 p4 = some out) : Met l yX7_cover wsX7_cover ({ frames := 0, cells := 0, slots := 0, locals := 0 }) (kW hz D vwCl (tX ck) (wX ad ck f0 g0 a0) [.ref (ad 5), .int p1, .int p2, .int 3, .int p4]) (kQ D vwCl (some (.int out.1)) (wX ad ck f0 g0 a0) (wX ad ck out.2.1 out.2.2.1 out.2.2.2)) 0 0 (kAd (wX ad ck f0 g0 a0)) := by
  refine Met.ofW (cc := cX7_cover) (maxL := 6) (ret := (some .boolean)) (by decide) rfl ?_
  intro p e s m args below meth c s₁ B hml hv
  obtain ⟨rfl, hP, hE, hD0⟩ := hv
  have hx := B.exec
  have hb := B.bytes
  have hr := B.returns
  have hts := atoms_spec (ws := wsX7_cover) B.pre
  have hown : s.vm.findClass RX7 = some m.cls := findClass_of_methodNamed B.named
  have hlocks := B.notSynchronized
  have hK := hE.1
  have hnA := kAd_up hD0
  have hD := kD_self hD0
  have hS : va_S (kAd (wX ad ck f0 g0 a0)) s.heap s.heap [] := va_S.rf
  have hN_11 : ∀ (f11 : Nat → Int32) (g11 : Nat → Int64) (a11 : Nat → Nat → Int32) (H : Heap) (locs : List Loc) (x1_11 : Int32) (ls : Array Slot), va_P D vwCl (wX ad ck f11 g11 a11) H → va_D (kAd (wX ad ck f0 g0 a0)) (wX ad ck f11 g11 a11) → va_S (kAd (wX ad ck f0 g0 a0)) s.heap H locs → lv_has ls 6 [(1, .int x1_11)] → ∀ r : (Int32 × ST), N_X7_cover_3_11 f11 g11 a11 x1_11 = some r → (fun r => r = out) r → W p l e (headSpec wsX7_cover ({ frames := 0, cells := 0, slots := 0, locals := 0 })).room s m [.ref (ad 5), .int p1, .int p2, .int 3, .int p4].toArray below meth c H locs 0 0 (MQ below (kQ D vwCl (some (.int out.1)) (wX ad ck f0 g0 a0) (wX ad ck out.2.1 out.2.2.1 out.2.2.2)) [.ref (ad 5), .int p1, .int p2, .int 3, .int p4].toArray s 0 0 (kAd (wX ad ck f0 g0 a0))) (F0 m 11 ls []) := by
    intro f11 g11 a11 H locs x1_11 ls hP hD hS hl r hF hp
    unfold N_X7_cover_3_11 at hF
    refine lv_iload_n hx hb dX7_cover_11 rfl (lv_at hl 0 rfl) ?_
    refine lv_if_ne (tgt := 19) hx hb dX7_cover_12 (by decide) (fun hc2 => ?_) (fun hc2 => ?_)
    · have hF := it_n hc2 hF
      refine lv_iconst (v := 0) hx hb dX7_cover_19 (by decide) ?_
      have hF := (Option.some.inj hF).trans hp
      subst hF
      exact W.zret hx hb hr rfl (fun t ht hW => ⟨rfl, by rw [ht]; exact hP, hS.F ht⟩) hS.2.2 dX7_cover_20
    · have hF := it_p hc2 hF
      refine lv_iconst (v := 1) hx hb dX7_cover_15 (by decide) ?_
      refine lv_goto (tgt := 20) hx hb dX7_cover_16 (by decide) ?_
      have hF := (Option.some.inj hF).trans hp
      subst hF
      exact W.zret hx hb hr rfl (fun t ht hW => ⟨rfl, by rw [ht]; exact hP, hS.F ht⟩) hS.2.2 dX7_cover_20
  have hl := lv_entry ([.ref (ad 5), .int p1, .int p2, .int 3, .int p4]) (n := 6) (Nat.le_of_ble_eq_true rfl)
  rw [lg_entry_eq]
  generalize (lg_sl ([.ref (ad 5), .int p1, .int p2, .int 3, .int p4]) ++ List.replicate (6 - (lg_sl ([.ref (ad 5), .int p1, .int p2, .int 3, .int p4])).length) Slot.unset).toArray = ls at hl ⊢
  have hl : lv_has ls 6 [(0, .ref (ad 5)), (1, .int p1), (2, .int p2), (3, .int 3), (4, .int p4)] := hl
  obtain ⟨r, hF, hp⟩ : ∃ r, F_X7_cover_3 f0 g0 a0 p1 p2 p4 = some r ∧ r = out := ⟨out, hF, rfl⟩
  unfold F_X7_cover_3 at hF
  refine lv_iload_n hx hb dX7_cover_0 rfl (lv_at hl 3 rfl) ?_
  refine lv_iload hx hb dX7_cover_1 (lv_at hl 4 rfl) ?_
  refine lv_icmp_ge (tgt := 11) hx hb dX7_cover_3 (by decide) (fun hc1 => ?_) (fun hc1 => ?_)
  · have hF := it_p hc1 hF
    exact hN_11 f0 g0 a0 _ _ p1 ls hP hD hS (lv_sub hl [1] rfl) _ hF hp
  · have hF := it_n hc1 hF
    refine lv_iload_n hx hb dX7_cover_6 rfl (lv_at hl 3 rfl) ?_
    refine lv_iconst (v := 3) hx hb dX7_cover_7 (by decide) ?_
    refine lv_icmp_lt (tgt := 21) hx hb dX7_cover_8 (by decide) (fun hc3 => ?_) (fun hc3 => ?_)
    · exact absurd hc3 (by decide)
    · exact hN_11 f0 g0 a0 _ _ p1 ls hP hD hS (lv_sub hl [1] rfl) _ hF hp

def N_X7_cover_2_11 (f11 : Nat → Int32) (g11 : Nat → Int64) (a11 : Nat → Nat → Int32) (x1_11 : Int32) : Option (Int32 × ST) := if x1_11 = 0 then some (1, f11, g11, a11) else some (0, f11, g11, a11)
def B_X7_cover_2_24 (f24 : Nat → Int32) (g24 : Nat → Int64) (a24 : Nat → Nat → Int32) (x1_24 : Int32) (x4_24 : Int32) (x5_24 : Int32) : Option ((Int32 × ST) ⊕ (Int32 × ST)) := if (f24 14) ≤ x5_24 then Option.map Sum.inr (some (0, f24, g24, a24)) else (F_X7_cover_3 f24 g24 a24 (x1_24 &&& ((F_at 32 (a24 26) x5_24) ^^^ (-1 : Int32))) (x5_24 + (1 : Int32)) x4_24).bind fun r5 => if r5.1 = 0 then some (.inl ((x5_24 + 1), r5.2.1, r5.2.2.1, r5.2.2.2)) else Option.map Sum.inr (some (1, r5.2.1, r5.2.2.1, (us r5.2.2.2 27 (F_put 3 (r5.2.2.2 27) 2 x5_24))))
def N_X7_cover_2_24 (f24 : Nat → Int32) (g24 : Nat → Int64) (a24 : Nat → Nat → Int32) (x1_24 : Int32) (x4_24 : Int32) (x5_24 : Int32) : Option (Int32 × ST) := lpN (fun q24 : (Int32 × ST) => B_X7_cover_2_24 q24.2.1 q24.2.2.1 q24.2.2.2 x1_24 x4_24 q24.1) kFu (x5_24, f24, g24, a24)
def F_X7_cover_2 (f0 : Nat → Int32) (g0 : Nat → Int64) (a0 : Nat → Nat → Int32) (p1 : Int32) (p2 : Int32) (p4 : Int32) : Option (Int32 × ST) := if p4 ≤ 2 then N_X7_cover_2_11 f0 g0 a0 p1 else N_X7_cover_2_24 f0 g0 a0 p1 p4 p2
set_option maxHeartbeats 4000000 in
set_option maxRecDepth 100000 in
theorem c_X7_cover_2 (l : Launch) (hz : Nat) (D : va_G) (ad : Nat → Nat) (ck : Nat → ClassId) (f0 : Nat → Int32) (g0 : Nat → Int64) (a0 : Nat → Nat → Int32) (p1 : Int32) (p2 : Int32) (p4 : Int32) (out : (Int32 × ST)) (hF : F_X7_cover_2 f0 g0 a0 p1 p2 p4 = some out) : Met l yX7_cover wsX7_cover ({ frames := 1, cells := 0, slots := 0, locals := 25 }) (kW hz D vwCl (tX ck) (wX ad ck f0 g0 a0) [.ref (ad 5), .int p1, .int p2, .int 2, .int p4]) (kQ D vwCl (some (.int out.1)) (wX ad ck f0 g0 a0) (wX ad ck out.2.1 out.2.2.1 out.2.2.2)) 0 0 (kAd (wX ad ck f0 g0 a0)) := by
  refine Met.ofW (cc := cX7_cover) (maxL := 6) (ret := (some .boolean)) (by decide) rfl ?_
  intro p e s m args below meth c s₁ B hml hv
  obtain ⟨rfl, hP, hE, hD0⟩ := hv
  have hx := B.exec
  have hb := B.bytes
  have hr := B.returns
  have hts := atoms_spec (ws := wsX7_cover) B.pre
  have hown : s.vm.findClass RX7 = some m.cls := findClass_of_methodNamed B.named
  have hlocks := B.notSynchronized
  have hK := hE.1
  have hnA := kAd_up hD0
  have hD := kD_self hD0
  have hS : va_S (kAd (wX ad ck f0 g0 a0)) s.heap s.heap [] := va_S.rf
  have hiX7 : ∀ w ∈ u_ws RX7 TX7 4, w ∈ wsX7_cover := by decide +kernel
  have hf9 := hts (.fieldLink RX7 9 "SpeltByFriends$Plans" "writtenIn" "[I") (by decide +kernel)
  have hf15 := hts (.fieldLink RX7 15 "SpeltByFriends$Plans" "companies" "[I") (by decide +kernel)
  have hf53 := hts (.fieldLink RX7 53 "SpeltByFriends$Plans" "companiesEnd" "I") (by decide +kernel)
  have hN_11 : ∀ (f11 : Nat → Int32) (g11 : Nat → Int64) (a11 : Nat → Nat → Int32) (H : Heap) (locs : List Loc) (x1_11 : Int32) (ls : Array Slot), va_P D vwCl (wX ad ck f11 g11 a11) H → va_D (kAd (wX ad ck f0 g0 a0)) (wX ad ck f11 g11 a11) → va_S (kAd (wX ad ck f0 g0 a0)) s.heap H locs → lv_has ls 6 [(1, .int x1_11)] → ∀ r : (Int32 × ST), N_X7_cover_2_11 f11 g11 a11 x1_11 = some r → (fun r => r = out) r → W p l e (headSpec wsX7_cover ({ frames := 1, cells := 0, slots := 0, locals := 25 })).room s m [.ref (ad 5), .int p1, .int p2, .int 2, .int p4].toArray below meth c H locs 0 0 (MQ below (kQ D vwCl (some (.int out.1)) (wX ad ck f0 g0 a0) (wX ad ck out.2.1 out.2.2.1 out.2.2.2)) [.ref (ad 5), .int p1, .int p2, .int 2, .int p4].toArray s 0 0 (kAd (wX ad ck f0 g0 a0))) (F0 m 11 ls []) := by
    intro f11 g11 a11 H locs x1_11 ls hP hD hS hl r hF hp
    unfold N_X7_cover_2_11 at hF
    refine lv_iload_n hx hb dX7_cover_11 rfl (lv_at hl 0 rfl) ?_
    refine lv_if_ne (tgt := 19) hx hb dX7_cover_12 (by decide) (fun hc2 => ?_) (fun hc2 => ?_)
    · have hF := it_n hc2 hF
      refine lv_iconst (v := 0) hx hb dX7_cover_19 (by decide) ?_
      have hF := (Option.some.inj hF).trans hp
      subst hF
      exact W.zret hx hb hr rfl (fun t ht hW => ⟨rfl, by rw [ht]; exact hP, hS.F ht⟩) hS.2.2 dX7_cover_20
    · have hF := it_p hc2 hF
      refine lv_iconst (v := 1) hx hb dX7_cover_15 (by decide) ?_
      refine lv_goto (tgt := 20) hx hb dX7_cover_16 (by decide) ?_
      have hF := (Option.some.inj hF).trans hp
      subst hF
      exact W.zret hx hb hr rfl (fun t ht hW => ⟨rfl, by rw [ht]; exact hP, hS.F ht⟩) hS.2.2 dX7_cover_20
  have hN_24 : ∀ (x1_24 : Int32) (x4_24 : Int32) (n24 : Nat) (f24 : Nat → Int32) (g24 : Nat → Int64) (a24 : Nat → Nat → Int32) (H : Heap) (locs : List Loc) (x5_24 : Int32) (ls : Array Slot), va_P D vwCl (wX ad ck f24 g24 a24) H → va_D (kAd (wX ad ck f0 g0 a0)) (wX ad ck f24 g24 a24) → va_S (kAd (wX ad ck f0 g0 a0)) s.heap H locs → lv_has ls 6 [(0, .ref (ad 5)), (1, .int x1_24), (3, .int 2), (4, .int x4_24), (5, .int x5_24)] → ∀ r : (Int32 × ST), lpN (fun q24 : (Int32 × ST) => B_X7_cover_2_24 q24.2.1 q24.2.2.1 q24.2.2.2 x1_24 x4_24 q24.1) n24 (x5_24, f24, g24, a24) = some r → (fun r => r = out) r → W p l e (headSpec wsX7_cover ({ frames := 1, cells := 0, slots := 0, locals := 25 })).room s m [.ref (ad 5), .int p1, .int p2, .int 2, .int p4].toArray below meth c H locs 0 0 (MQ below (kQ D vwCl (some (.int out.1)) (wX ad ck f0 g0 a0) (wX ad ck out.2.1 out.2.2.1 out.2.2.2)) [.ref (ad 5), .int p1, .int p2, .int 2, .int p4].toArray s 0 0 (kAd (wX ad ck f0 g0 a0))) (F0 m 24 ls []) := by
    intro x1_24 x4_24 n24
    induction n24 with
    | zero => intro f24 g24 a24 H locs x5_24 ls hP hD hS hl r hF hp; exact (lp_z hF).elim
    | succ n24 ih24 =>
      intro f24 g24 a24 H locs x5_24 ls hP hD hS hl r hF hp
      obtain ⟨rs, hF, hp⟩ := lpN_K (P := (fun r => r = out)) hF hp
      unfold B_X7_cover_2_24 at hF
      refine lv_iload hx hb dX7_cover_24 (lv_at hl 4 rfl) ?_
      refine lv_aload_n hx hb dX7_cover_26 rfl (lv_at hl 0 rfl) ?_
      refine va_get (D := D) (ci := 7) (v := .int (f24 14)) (C := RX7) (T := TX7) (N := 4) hx hb hts hiX7 hown hK hP 5 rfl rfl 1 (by decide) hf53 (fun _ h9 => h9) rfl dX7_cover_27 ?_
      refine lv_icmp_ge (tgt := 80) hx hb dX7_cover_30 (by decide) (fun hc4 => ?_) (fun hc4 => ?_)
      · have hF := it_p hc4 hF
        obtain ⟨r, hF1, hr0⟩ := mp_s hF
        clear hF
        subst hr0
        have hF := hF1
        clear hF1
        have hp : (fun r => r = out) r := hp
        refine lv_iconst (v := 0) hx hb dX7_cover_80 (by decide) ?_
        have hF := (Option.some.inj hF).trans hp
        subst hF
        exact W.zret hx hb hr rfl (fun t ht hW => ⟨rfl, by rw [ht]; exact hP, hS.F ht⟩) hS.2.2 dX7_cover_81
      · have hF := it_n hc4 hF
        refine lv_aload_n hx hb dX7_cover_33 rfl (lv_at hl 0 rfl) ?_
        refine lv_iload_n hx hb dX7_cover_34 rfl (lv_at hl 1 rfl) ?_
        refine lv_aload_n hx hb dX7_cover_35 rfl (lv_at hl 0 rfl) ?_
        refine va_get (D := D) (ci := 7) (v := .ref (ad 26)) (C := RX7) (T := TX7) (N := 4) hx hb hts hiX7 hown hK hP 5 rfl rfl 0 (by decide) hf9 (fun _ h9 => h9) rfl dX7_cover_36 ?_
        refine lv_iload hx hb dX7_cover_39 (lv_at hl 4 rfl) ?_
        refine kS_i (va_runSN (As := [.ref (ad 26), .int x5_24]) (rest := [.int x1_24, .ref (ad 5)]) ⟨hx, hb, hml, hown, hts⟩ (c_X11_at l hz D (tX ck) (wX ad ck f24 g24 a24) 26 13 rfl rfl (by decide) x5_24) ⟨va_cnB 2 hts gX7_cover_X11_at_n68 rfl rfl rfl (hE.2.1 _ knX7_68) (hts (.initialized RX11) (by decide +kernel)) pX11_at ⟨Nat.le_of_ble_eq_true rfl, Nat.le_of_ble_eq_true rfl⟩, hts (.static yX11_at) (by decide +kernel), trivial⟩ (kR.preS hP (hE.kept hS hnA)) rfl rfl hl.1 rfl (lv_room (Nat.le_of_ble_eq_true rfl)) dX7_cover_41 ⟨Nat.le_refl _, Nat.le_refl _⟩) ?_
        refine lv_iconst (v := (-1)) hx hb dX7_cover_44 (by decide) ?_
        refine lv_ixor hx hb dX7_cover_45 ?_
        refine lv_iand hx hb dX7_cover_46 ?_
        refine lv_iload hx hb dX7_cover_47 (lv_at hl 4 rfl) ?_
        refine lv_iconst (v := 1) hx hb dX7_cover_49 (by decide) ?_
        refine lv_iadd hx hb dX7_cover_50 ?_
        refine lv_iload_n hx hb dX7_cover_51 rfl (lv_at hl 2 rfl) ?_
        refine lv_iconst (v := 1) hx hb dX7_cover_52 (by decide) ?_
        refine lv_iadd hx hb dX7_cover_53 ?_
        refine lv_topi (fun yc hyc => ?_)
        have hyc : yc = 3 := hyc.trans (by decide)
        subst hyc
        refine lv_iload hx hb dX7_cover_54 (lv_at hl 3 rfl) ?_
        obtain ⟨r5, he5, hF⟩ := bd_s hF
        refine kS_w (va_runV (As := [.int (x1_24 &&& ((F_at 32 (a24 26) x5_24) ^^^ (-1 : Int32))), .int (x5_24 + (1 : Int32)), .int 3, .int x4_24]) (rest := []) ⟨hx, hb, hml, hown, hts⟩ (c_X7_cover_3 l hz D ad ck f24 g24 a24 (x1_24 &&& ((F_at 32 (a24 26) x5_24) ^^^ (-1 : Int32))) (x5_24 + (1 : Int32)) x4_24 r5 he5) (cwV 4 hts gX7_cover_X7_cover rfl rfl rfl ⟨rfl, pX7_cover⟩ ⟨Nat.le_of_ble_eq_true rfl, Nat.le_of_ble_eq_true rfl⟩) (kW.preV (va_recv hK hP (ci := 7) (q0 := 5) rfl rfl) hP (hE.kept hS hnA) hD hnA) rfl rfl hl.1 rfl (lv_room (Nat.le_of_ble_eq_true rfl)) dX7_cover_56 ⟨Nat.le_refl _, Nat.le_refl _⟩) hD hS rfl (fun H locs hP hD hS => ?_)
        refine lv_if_eq (tgt := 74) hx hb dX7_cover_59 (by decide) (fun hc6 => ?_) (fun hc6 => ?_)
        · have hF := it_p hc6 hF
          refine lv_iinc (v := (x5_24 + 1)) (lv' := [(5, .int (x5_24 + 1)), (0, .ref (ad 5)), (1, .int x1_24), (3, .int 2), (4, .int x4_24)]) hx hb dX7_cover_74 hl (k := 4) rfl rfl (by decide) rfl (fun ls hl => ?_)
          refine lv_goto (tgt := 24) hx hb dX7_cover_77 (by decide) ?_
          have hF := Option.some.inj hF
          subst hF
          obtain ⟨r, hF, hp⟩ := hp
          exact ih24 r5.2.1 r5.2.2.1 r5.2.2.2 _ _ (x5_24 + 1) ls hP hD hS (lv_sub hl [1, 2, 3, 4, 0] rfl) r hF hp
        · have hF := it_n hc6 hF
          obtain ⟨r, hF1, hr0⟩ := mp_s hF
          clear hF
          subst hr0
          have hF := hF1
          clear hF1
          have hp : (fun r => r = out) r := hp
          refine lv_aload_n hx hb dX7_cover_62 rfl (lv_at hl 0 rfl) ?_
          refine va_get (D := D) (ci := 7) (v := .ref (ad 27)) (C := RX7) (T := TX7) (N := 4) hx hb hts hiX7 hown hK hP 5 rfl rfl 2 (by decide) hf15 (fun _ h9 => h9) rfl dX7_cover_63 ?_
          refine lv_iload_n hx hb dX7_cover_66 rfl (lv_at hl 2 rfl) ?_
          refine lv_iload hx hb dX7_cover_67 (lv_at hl 4 rfl) ?_
          refine kS_w (va_runSN (As := [.ref (ad 27), .int 2, .int x5_24]) (rest := []) ⟨hx, hb, hml, hown, hts⟩ (c_X11_put l hz D (tX ck) (wX ad ck r5.2.1 r5.2.2.1 r5.2.2.2) 27 14 rfl rfl (by decide) 2 x5_24) ⟨va_cnB 3 hts gX7_cover_X11_put_n60 rfl rfl rfl (hE.2.1 _ knX7_60) (hts (.initialized RX11) (by decide +kernel)) pX11_put ⟨Nat.le_of_ble_eq_true rfl, Nat.le_of_ble_eq_true rfl⟩, hts (.static yX11_put) (by decide +kernel), trivial⟩ (kW.preS hP (hE.kept hS hnA) hD hnA) rfl rfl hl.1 rfl (lv_room (Nat.le_of_ble_eq_true rfl)) dX7_cover_69 ⟨Nat.le_refl _, Nat.le_refl _⟩) hD hS (kSet_fst rfl) (fun H locs hP hD hS => ?_)
          have hP := kPe (es_wX27 ad ck r5.2.1 r5.2.2.1 r5.2.2.2 (F_put 3 (r5.2.2.2 27) 2 x5_24)) hP
          have hD := kDe (es_wX27 ad ck r5.2.1 r5.2.2.1 r5.2.2.2 (F_put 3 (r5.2.2.2 27) 2 x5_24)) hD
          refine lv_iconst (v := 1) hx hb dX7_cover_72 (by decide) ?_
          have hF := (Option.some.inj hF).trans hp
          subst hF
          exact W.zret hx hb hr rfl (fun t ht hW => ⟨rfl, by rw [ht]; exact hP, hS.F ht⟩) hS.2.2 dX7_cover_73
  have hl := lv_entry ([.ref (ad 5), .int p1, .int p2, .int 2, .int p4]) (n := 6) (Nat.le_of_ble_eq_true rfl)
  rw [lg_entry_eq]
  generalize (lg_sl ([.ref (ad 5), .int p1, .int p2, .int 2, .int p4]) ++ List.replicate (6 - (lg_sl ([.ref (ad 5), .int p1, .int p2, .int 2, .int p4])).length) Slot.unset).toArray = ls at hl ⊢
  have hl : lv_has ls 6 [(0, .ref (ad 5)), (1, .int p1), (2, .int p2), (3, .int 2), (4, .int p4)] := hl
  obtain ⟨r, hF, hp⟩ : ∃ r, F_X7_cover_2 f0 g0 a0 p1 p2 p4 = some r ∧ r = out := ⟨out, hF, rfl⟩
  unfold F_X7_cover_2 at hF
  refine lv_iload_n hx hb dX7_cover_0 rfl (lv_at hl 3 rfl) ?_
  refine lv_iload hx hb dX7_cover_1 (lv_at hl 4 rfl) ?_
  refine lv_icmp_ge (tgt := 11) hx hb dX7_cover_3 (by decide) (fun hc1 => ?_) (fun hc1 => ?_)
  · have hF := it_p hc1 hF
    exact hN_11 f0 g0 a0 _ _ p1 ls hP hD hS (lv_sub hl [1] rfl) _ hF hp
  · have hF := it_n hc1 hF
    refine lv_iload_n hx hb dX7_cover_6 rfl (lv_at hl 3 rfl) ?_
    refine lv_iconst (v := 3) hx hb dX7_cover_7 (by decide) ?_
    refine lv_icmp_lt (tgt := 21) hx hb dX7_cover_8 (by decide) (fun hc3 => ?_) (fun hc3 => ?_)
    · refine lv_iload_n hx hb dX7_cover_21 rfl (lv_at hl 2 rfl) ?_
      refine lv_istore (lv' := [(5, .int p2), (0, .ref (ad 5)), (1, .int p1), (2, .int p2), (3, .int 2), (4, .int p4)]) hx hb dX7_cover_22 hl (by decide) rfl (fun ls hl => ?_)
      exact hN_24 p1 p4 kFu f0 g0 a0 _ _ p2 ls hP hD hS (lv_sub hl [1, 2, 4, 5, 0] rfl) _ hF hp
    · exact absurd (by decide) hc3

def N_X7_cover_1_11 (f11 : Nat → Int32) (g11 : Nat → Int64) (a11 : Nat → Nat → Int32) (x1_11 : Int32) : Option (Int32 × ST) := if x1_11 = 0 then some (1, f11, g11, a11) else some (0, f11, g11, a11)
def B_X7_cover_1_24 (f24 : Nat → Int32) (g24 : Nat → Int64) (a24 : Nat → Nat → Int32) (x1_24 : Int32) (x4_24 : Int32) (x5_24 : Int32) : Option ((Int32 × ST) ⊕ (Int32 × ST)) := if (f24 14) ≤ x5_24 then Option.map Sum.inr (some (0, f24, g24, a24)) else (F_X7_cover_2 f24 g24 a24 (x1_24 &&& ((F_at 32 (a24 26) x5_24) ^^^ (-1 : Int32))) (x5_24 + (1 : Int32)) x4_24).bind fun r5 => if r5.1 = 0 then some (.inl ((x5_24 + 1), r5.2.1, r5.2.2.1, r5.2.2.2)) else Option.map Sum.inr (some (1, r5.2.1, r5.2.2.1, (us r5.2.2.2 27 (F_put 3 (r5.2.2.2 27) 1 x5_24))))
def N_X7_cover_1_24 (f24 : Nat → Int32) (g24 : Nat → Int64) (a24 : Nat → Nat → Int32) (x1_24 : Int32) (x4_24 : Int32) (x5_24 : Int32) : Option (Int32 × ST) := lpN (fun q24 : (Int32 × ST) => B_X7_cover_1_24 q24.2.1 q24.2.2.1 q24.2.2.2 x1_24 x4_24 q24.1) kFu (x5_24, f24, g24, a24)
def F_X7_cover_1 (f0 : Nat → Int32) (g0 : Nat → Int64) (a0 : Nat → Nat → Int32) (p1 : Int32) (p2 : Int32) (p4 : Int32) : Option (Int32 × ST) := if p4 ≤ 1 then N_X7_cover_1_11 f0 g0 a0 p1 else N_X7_cover_1_24 f0 g0 a0 p1 p4 p2
set_option maxHeartbeats 4000000 in
set_option maxRecDepth 100000 in
theorem c_X7_cover_1 (l : Launch) (hz : Nat) (D : va_G) (ad : Nat → Nat) (ck : Nat → ClassId) (f0 : Nat → Int32) (g0 : Nat → Int64) (a0 : Nat → Nat → Int32) (p1 : Int32) (p2 : Int32) (p4 : Int32) (out : (Int32 × ST)) (hF : F_X7_cover_1 f0 g0 a0 p1 p2 p4 = some out) : Met l yX7_cover wsX7_cover ({ frames := 2, cells := 0, slots := 0, locals := 50 }) (kW hz D vwCl (tX ck) (wX ad ck f0 g0 a0) [.ref (ad 5), .int p1, .int p2, .int 1, .int p4]) (kQ D vwCl (some (.int out.1)) (wX ad ck f0 g0 a0) (wX ad ck out.2.1 out.2.2.1 out.2.2.2)) 0 0 (kAd (wX ad ck f0 g0 a0)) := by
  refine Met.ofW (cc := cX7_cover) (maxL := 6) (ret := (some .boolean)) (by decide) rfl ?_
  intro p e s m args below meth c s₁ B hml hv
  obtain ⟨rfl, hP, hE, hD0⟩ := hv
  have hx := B.exec
  have hb := B.bytes
  have hr := B.returns
  have hts := atoms_spec (ws := wsX7_cover) B.pre
  have hown : s.vm.findClass RX7 = some m.cls := findClass_of_methodNamed B.named
  have hlocks := B.notSynchronized
  have hK := hE.1
  have hnA := kAd_up hD0
  have hD := kD_self hD0
  have hS : va_S (kAd (wX ad ck f0 g0 a0)) s.heap s.heap [] := va_S.rf
  have hiX7 : ∀ w ∈ u_ws RX7 TX7 4, w ∈ wsX7_cover := by decide +kernel
  have hf9 := hts (.fieldLink RX7 9 "SpeltByFriends$Plans" "writtenIn" "[I") (by decide +kernel)
  have hf15 := hts (.fieldLink RX7 15 "SpeltByFriends$Plans" "companies" "[I") (by decide +kernel)
  have hf53 := hts (.fieldLink RX7 53 "SpeltByFriends$Plans" "companiesEnd" "I") (by decide +kernel)
  have hN_11 : ∀ (f11 : Nat → Int32) (g11 : Nat → Int64) (a11 : Nat → Nat → Int32) (H : Heap) (locs : List Loc) (x1_11 : Int32) (ls : Array Slot), va_P D vwCl (wX ad ck f11 g11 a11) H → va_D (kAd (wX ad ck f0 g0 a0)) (wX ad ck f11 g11 a11) → va_S (kAd (wX ad ck f0 g0 a0)) s.heap H locs → lv_has ls 6 [(1, .int x1_11)] → ∀ r : (Int32 × ST), N_X7_cover_1_11 f11 g11 a11 x1_11 = some r → (fun r => r = out) r → W p l e (headSpec wsX7_cover ({ frames := 2, cells := 0, slots := 0, locals := 50 })).room s m [.ref (ad 5), .int p1, .int p2, .int 1, .int p4].toArray below meth c H locs 0 0 (MQ below (kQ D vwCl (some (.int out.1)) (wX ad ck f0 g0 a0) (wX ad ck out.2.1 out.2.2.1 out.2.2.2)) [.ref (ad 5), .int p1, .int p2, .int 1, .int p4].toArray s 0 0 (kAd (wX ad ck f0 g0 a0))) (F0 m 11 ls []) := by
    intro f11 g11 a11 H locs x1_11 ls hP hD hS hl r hF hp
    unfold N_X7_cover_1_11 at hF
    refine lv_iload_n hx hb dX7_cover_11 rfl (lv_at hl 0 rfl) ?_
    refine lv_if_ne (tgt := 19) hx hb dX7_cover_12 (by decide) (fun hc2 => ?_) (fun hc2 => ?_)
    · have hF := it_n hc2 hF
      refine lv_iconst (v := 0) hx hb dX7_cover_19 (by decide) ?_
      have hF := (Option.some.inj hF).trans hp
      subst hF
      exact W.zret hx hb hr rfl (fun t ht hW => ⟨rfl, by rw [ht]; exact hP, hS.F ht⟩) hS.2.2 dX7_cover_20
    · have hF := it_p hc2 hF
      refine lv_iconst (v := 1) hx hb dX7_cover_15 (by decide) ?_
      refine lv_goto (tgt := 20) hx hb dX7_cover_16 (by decide) ?_
      have hF := (Option.some.inj hF).trans hp
      subst hF
      exact W.zret hx hb hr rfl (fun t ht hW => ⟨rfl, by rw [ht]; exact hP, hS.F ht⟩) hS.2.2 dX7_cover_20
  have hN_24 : ∀ (x1_24 : Int32) (x4_24 : Int32) (n24 : Nat) (f24 : Nat → Int32) (g24 : Nat → Int64) (a24 : Nat → Nat → Int32) (H : Heap) (locs : List Loc) (x5_24 : Int32) (ls : Array Slot), va_P D vwCl (wX ad ck f24 g24 a24) H → va_D (kAd (wX ad ck f0 g0 a0)) (wX ad ck f24 g24 a24) → va_S (kAd (wX ad ck f0 g0 a0)) s.heap H locs → lv_has ls 6 [(0, .ref (ad 5)), (1, .int x1_24), (3, .int 1), (4, .int x4_24), (5, .int x5_24)] → ∀ r : (Int32 × ST), lpN (fun q24 : (Int32 × ST) => B_X7_cover_1_24 q24.2.1 q24.2.2.1 q24.2.2.2 x1_24 x4_24 q24.1) n24 (x5_24, f24, g24, a24) = some r → (fun r => r = out) r → W p l e (headSpec wsX7_cover ({ frames := 2, cells := 0, slots := 0, locals := 50 })).room s m [.ref (ad 5), .int p1, .int p2, .int 1, .int p4].toArray below meth c H locs 0 0 (MQ below (kQ D vwCl (some (.int out.1)) (wX ad ck f0 g0 a0) (wX ad ck out.2.1 out.2.2.1 out.2.2.2)) [.ref (ad 5), .int p1, .int p2, .int 1, .int p4].toArray s 0 0 (kAd (wX ad ck f0 g0 a0))) (F0 m 24 ls []) := by
    intro x1_24 x4_24 n24
    induction n24 with
    | zero => intro f24 g24 a24 H locs x5_24 ls hP hD hS hl r hF hp; exact (lp_z hF).elim
    | succ n24 ih24 =>
      intro f24 g24 a24 H locs x5_24 ls hP hD hS hl r hF hp
      obtain ⟨rs, hF, hp⟩ := lpN_K (P := (fun r => r = out)) hF hp
      unfold B_X7_cover_1_24 at hF
      refine lv_iload hx hb dX7_cover_24 (lv_at hl 4 rfl) ?_
      refine lv_aload_n hx hb dX7_cover_26 rfl (lv_at hl 0 rfl) ?_
      refine va_get (D := D) (ci := 7) (v := .int (f24 14)) (C := RX7) (T := TX7) (N := 4) hx hb hts hiX7 hown hK hP 5 rfl rfl 1 (by decide) hf53 (fun _ h9 => h9) rfl dX7_cover_27 ?_
      refine lv_icmp_ge (tgt := 80) hx hb dX7_cover_30 (by decide) (fun hc4 => ?_) (fun hc4 => ?_)
      · have hF := it_p hc4 hF
        obtain ⟨r, hF1, hr0⟩ := mp_s hF
        clear hF
        subst hr0
        have hF := hF1
        clear hF1
        have hp : (fun r => r = out) r := hp
        refine lv_iconst (v := 0) hx hb dX7_cover_80 (by decide) ?_
        have hF := (Option.some.inj hF).trans hp
        subst hF
        exact W.zret hx hb hr rfl (fun t ht hW => ⟨rfl, by rw [ht]; exact hP, hS.F ht⟩) hS.2.2 dX7_cover_81
      · have hF := it_n hc4 hF
        refine lv_aload_n hx hb dX7_cover_33 rfl (lv_at hl 0 rfl) ?_
        refine lv_iload_n hx hb dX7_cover_34 rfl (lv_at hl 1 rfl) ?_
        refine lv_aload_n hx hb dX7_cover_35 rfl (lv_at hl 0 rfl) ?_
        refine va_get (D := D) (ci := 7) (v := .ref (ad 26)) (C := RX7) (T := TX7) (N := 4) hx hb hts hiX7 hown hK hP 5 rfl rfl 0 (by decide) hf9 (fun _ h9 => h9) rfl dX7_cover_36 ?_
        refine lv_iload hx hb dX7_cover_39 (lv_at hl 4 rfl) ?_
        refine kS_i (va_runSN (As := [.ref (ad 26), .int x5_24]) (rest := [.int x1_24, .ref (ad 5)]) ⟨hx, hb, hml, hown, hts⟩ (c_X11_at l hz D (tX ck) (wX ad ck f24 g24 a24) 26 13 rfl rfl (by decide) x5_24) ⟨va_cnB 2 hts gX7_cover_X11_at_n68 rfl rfl rfl (hE.2.1 _ knX7_68) (hts (.initialized RX11) (by decide +kernel)) pX11_at ⟨Nat.le_of_ble_eq_true rfl, Nat.le_of_ble_eq_true rfl⟩, hts (.static yX11_at) (by decide +kernel), trivial⟩ (kR.preS hP (hE.kept hS hnA)) rfl rfl hl.1 rfl (lv_room (Nat.le_of_ble_eq_true rfl)) dX7_cover_41 ⟨Nat.le_refl _, Nat.le_refl _⟩) ?_
        refine lv_iconst (v := (-1)) hx hb dX7_cover_44 (by decide) ?_
        refine lv_ixor hx hb dX7_cover_45 ?_
        refine lv_iand hx hb dX7_cover_46 ?_
        refine lv_iload hx hb dX7_cover_47 (lv_at hl 4 rfl) ?_
        refine lv_iconst (v := 1) hx hb dX7_cover_49 (by decide) ?_
        refine lv_iadd hx hb dX7_cover_50 ?_
        refine lv_iload_n hx hb dX7_cover_51 rfl (lv_at hl 2 rfl) ?_
        refine lv_iconst (v := 1) hx hb dX7_cover_52 (by decide) ?_
        refine lv_iadd hx hb dX7_cover_53 ?_
        refine lv_topi (fun yc hyc => ?_)
        have hyc : yc = 2 := hyc.trans (by decide)
        subst hyc
        refine lv_iload hx hb dX7_cover_54 (lv_at hl 3 rfl) ?_
        obtain ⟨r5, he5, hF⟩ := bd_s hF
        refine kS_w (va_runV (As := [.int (x1_24 &&& ((F_at 32 (a24 26) x5_24) ^^^ (-1 : Int32))), .int (x5_24 + (1 : Int32)), .int 2, .int x4_24]) (rest := []) ⟨hx, hb, hml, hown, hts⟩ (c_X7_cover_2 l hz D ad ck f24 g24 a24 (x1_24 &&& ((F_at 32 (a24 26) x5_24) ^^^ (-1 : Int32))) (x5_24 + (1 : Int32)) x4_24 r5 he5) (cwV 4 hts gX7_cover_X7_cover rfl rfl rfl ⟨rfl, pX7_cover⟩ ⟨Nat.le_of_ble_eq_true rfl, Nat.le_of_ble_eq_true rfl⟩) (kW.preV (va_recv hK hP (ci := 7) (q0 := 5) rfl rfl) hP (hE.kept hS hnA) hD hnA) rfl rfl hl.1 rfl (lv_room (Nat.le_of_ble_eq_true rfl)) dX7_cover_56 ⟨Nat.le_refl _, Nat.le_refl _⟩) hD hS rfl (fun H locs hP hD hS => ?_)
        refine lv_if_eq (tgt := 74) hx hb dX7_cover_59 (by decide) (fun hc6 => ?_) (fun hc6 => ?_)
        · have hF := it_p hc6 hF
          refine lv_iinc (v := (x5_24 + 1)) (lv' := [(5, .int (x5_24 + 1)), (0, .ref (ad 5)), (1, .int x1_24), (3, .int 1), (4, .int x4_24)]) hx hb dX7_cover_74 hl (k := 4) rfl rfl (by decide) rfl (fun ls hl => ?_)
          refine lv_goto (tgt := 24) hx hb dX7_cover_77 (by decide) ?_
          have hF := Option.some.inj hF
          subst hF
          obtain ⟨r, hF, hp⟩ := hp
          exact ih24 r5.2.1 r5.2.2.1 r5.2.2.2 _ _ (x5_24 + 1) ls hP hD hS (lv_sub hl [1, 2, 3, 4, 0] rfl) r hF hp
        · have hF := it_n hc6 hF
          obtain ⟨r, hF1, hr0⟩ := mp_s hF
          clear hF
          subst hr0
          have hF := hF1
          clear hF1
          have hp : (fun r => r = out) r := hp
          refine lv_aload_n hx hb dX7_cover_62 rfl (lv_at hl 0 rfl) ?_
          refine va_get (D := D) (ci := 7) (v := .ref (ad 27)) (C := RX7) (T := TX7) (N := 4) hx hb hts hiX7 hown hK hP 5 rfl rfl 2 (by decide) hf15 (fun _ h9 => h9) rfl dX7_cover_63 ?_
          refine lv_iload_n hx hb dX7_cover_66 rfl (lv_at hl 2 rfl) ?_
          refine lv_iload hx hb dX7_cover_67 (lv_at hl 4 rfl) ?_
          refine kS_w (va_runSN (As := [.ref (ad 27), .int 1, .int x5_24]) (rest := []) ⟨hx, hb, hml, hown, hts⟩ (c_X11_put l hz D (tX ck) (wX ad ck r5.2.1 r5.2.2.1 r5.2.2.2) 27 14 rfl rfl (by decide) 1 x5_24) ⟨va_cnB 3 hts gX7_cover_X11_put_n60 rfl rfl rfl (hE.2.1 _ knX7_60) (hts (.initialized RX11) (by decide +kernel)) pX11_put ⟨Nat.le_of_ble_eq_true rfl, Nat.le_of_ble_eq_true rfl⟩, hts (.static yX11_put) (by decide +kernel), trivial⟩ (kW.preS hP (hE.kept hS hnA) hD hnA) rfl rfl hl.1 rfl (lv_room (Nat.le_of_ble_eq_true rfl)) dX7_cover_69 ⟨Nat.le_refl _, Nat.le_refl _⟩) hD hS (kSet_fst rfl) (fun H locs hP hD hS => ?_)
          have hP := kPe (es_wX27 ad ck r5.2.1 r5.2.2.1 r5.2.2.2 (F_put 3 (r5.2.2.2 27) 1 x5_24)) hP
          have hD := kDe (es_wX27 ad ck r5.2.1 r5.2.2.1 r5.2.2.2 (F_put 3 (r5.2.2.2 27) 1 x5_24)) hD
          refine lv_iconst (v := 1) hx hb dX7_cover_72 (by decide) ?_
          have hF := (Option.some.inj hF).trans hp
          subst hF
          exact W.zret hx hb hr rfl (fun t ht hW => ⟨rfl, by rw [ht]; exact hP, hS.F ht⟩) hS.2.2 dX7_cover_73
  have hl := lv_entry ([.ref (ad 5), .int p1, .int p2, .int 1, .int p4]) (n := 6) (Nat.le_of_ble_eq_true rfl)
  rw [lg_entry_eq]
  generalize (lg_sl ([.ref (ad 5), .int p1, .int p2, .int 1, .int p4]) ++ List.replicate (6 - (lg_sl ([.ref (ad 5), .int p1, .int p2, .int 1, .int p4])).length) Slot.unset).toArray = ls at hl ⊢
  have hl : lv_has ls 6 [(0, .ref (ad 5)), (1, .int p1), (2, .int p2), (3, .int 1), (4, .int p4)] := hl
  obtain ⟨r, hF, hp⟩ : ∃ r, F_X7_cover_1 f0 g0 a0 p1 p2 p4 = some r ∧ r = out := ⟨out, hF, rfl⟩
  unfold F_X7_cover_1 at hF
  refine lv_iload_n hx hb dX7_cover_0 rfl (lv_at hl 3 rfl) ?_
  refine lv_iload hx hb dX7_cover_1 (lv_at hl 4 rfl) ?_
  refine lv_icmp_ge (tgt := 11) hx hb dX7_cover_3 (by decide) (fun hc1 => ?_) (fun hc1 => ?_)
  · have hF := it_p hc1 hF
    exact hN_11 f0 g0 a0 _ _ p1 ls hP hD hS (lv_sub hl [1] rfl) _ hF hp
  · have hF := it_n hc1 hF
    refine lv_iload_n hx hb dX7_cover_6 rfl (lv_at hl 3 rfl) ?_
    refine lv_iconst (v := 3) hx hb dX7_cover_7 (by decide) ?_
    refine lv_icmp_lt (tgt := 21) hx hb dX7_cover_8 (by decide) (fun hc3 => ?_) (fun hc3 => ?_)
    · refine lv_iload_n hx hb dX7_cover_21 rfl (lv_at hl 2 rfl) ?_
      refine lv_istore (lv' := [(5, .int p2), (0, .ref (ad 5)), (1, .int p1), (2, .int p2), (3, .int 1), (4, .int p4)]) hx hb dX7_cover_22 hl (by decide) rfl (fun ls hl => ?_)
      exact hN_24 p1 p4 kFu f0 g0 a0 _ _ p2 ls hP hD hS (lv_sub hl [1, 2, 4, 5, 0] rfl) _ hF hp
    · exact absurd (by decide) hc3

def N_X7_cover_0_11 (f11 : Nat → Int32) (g11 : Nat → Int64) (a11 : Nat → Nat → Int32) (x1_11 : Int32) : Option (Int32 × ST) := if x1_11 = 0 then some (1, f11, g11, a11) else some (0, f11, g11, a11)
def B_X7_cover_0_24 (f24 : Nat → Int32) (g24 : Nat → Int64) (a24 : Nat → Nat → Int32) (x1_24 : Int32) (x4_24 : Int32) (x5_24 : Int32) : Option ((Int32 × ST) ⊕ (Int32 × ST)) := if (f24 14) ≤ x5_24 then Option.map Sum.inr (some (0, f24, g24, a24)) else (F_X7_cover_1 f24 g24 a24 (x1_24 &&& ((F_at 32 (a24 26) x5_24) ^^^ (-1 : Int32))) (x5_24 + (1 : Int32)) x4_24).bind fun r5 => if r5.1 = 0 then some (.inl ((x5_24 + 1), r5.2.1, r5.2.2.1, r5.2.2.2)) else Option.map Sum.inr (some (1, r5.2.1, r5.2.2.1, (us r5.2.2.2 27 (F_put 3 (r5.2.2.2 27) 0 x5_24))))
def N_X7_cover_0_24 (f24 : Nat → Int32) (g24 : Nat → Int64) (a24 : Nat → Nat → Int32) (x1_24 : Int32) (x4_24 : Int32) (x5_24 : Int32) : Option (Int32 × ST) := lpN (fun q24 : (Int32 × ST) => B_X7_cover_0_24 q24.2.1 q24.2.2.1 q24.2.2.2 x1_24 x4_24 q24.1) kFu (x5_24, f24, g24, a24)
def F_X7_cover_0 (f0 : Nat → Int32) (g0 : Nat → Int64) (a0 : Nat → Nat → Int32) (p1 : Int32) (p2 : Int32) (p4 : Int32) : Option (Int32 × ST) := if p4 ≤ 0 then N_X7_cover_0_11 f0 g0 a0 p1 else N_X7_cover_0_24 f0 g0 a0 p1 p4 p2
set_option maxHeartbeats 4000000 in
set_option maxRecDepth 100000 in
theorem c_X7_cover_0 (l : Launch) (hz : Nat) (D : va_G) (ad : Nat → Nat) (ck : Nat → ClassId) (f0 : Nat → Int32) (g0 : Nat → Int64) (a0 : Nat → Nat → Int32) (p1 : Int32) (p2 : Int32) (p4 : Int32) (out : (Int32 × ST)) (hF : F_X7_cover_0 f0 g0 a0 p1 p2 p4 = some out) : Met l yX7_cover wsX7_cover ({ frames := 3, cells := 0, slots := 0, locals := 75 }) (kW hz D vwCl (tX ck) (wX ad ck f0 g0 a0) [.ref (ad 5), .int p1, .int p2, .int 0, .int p4]) (kQ D vwCl (some (.int out.1)) (wX ad ck f0 g0 a0) (wX ad ck out.2.1 out.2.2.1 out.2.2.2)) 0 0 (kAd (wX ad ck f0 g0 a0)) := by
  refine Met.ofW (cc := cX7_cover) (maxL := 6) (ret := (some .boolean)) (by decide) rfl ?_
  intro p e s m args below meth c s₁ B hml hv
  obtain ⟨rfl, hP, hE, hD0⟩ := hv
  have hx := B.exec
  have hb := B.bytes
  have hr := B.returns
  have hts := atoms_spec (ws := wsX7_cover) B.pre
  have hown : s.vm.findClass RX7 = some m.cls := findClass_of_methodNamed B.named
  have hlocks := B.notSynchronized
  have hK := hE.1
  have hnA := kAd_up hD0
  have hD := kD_self hD0
  have hS : va_S (kAd (wX ad ck f0 g0 a0)) s.heap s.heap [] := va_S.rf
  have hiX7 : ∀ w ∈ u_ws RX7 TX7 4, w ∈ wsX7_cover := by decide +kernel
  have hf9 := hts (.fieldLink RX7 9 "SpeltByFriends$Plans" "writtenIn" "[I") (by decide +kernel)
  have hf15 := hts (.fieldLink RX7 15 "SpeltByFriends$Plans" "companies" "[I") (by decide +kernel)
  have hf53 := hts (.fieldLink RX7 53 "SpeltByFriends$Plans" "companiesEnd" "I") (by decide +kernel)
  have hN_11 : ∀ (f11 : Nat → Int32) (g11 : Nat → Int64) (a11 : Nat → Nat → Int32) (H : Heap) (locs : List Loc) (x1_11 : Int32) (ls : Array Slot), va_P D vwCl (wX ad ck f11 g11 a11) H → va_D (kAd (wX ad ck f0 g0 a0)) (wX ad ck f11 g11 a11) → va_S (kAd (wX ad ck f0 g0 a0)) s.heap H locs → lv_has ls 6 [(1, .int x1_11)] → ∀ r : (Int32 × ST), N_X7_cover_0_11 f11 g11 a11 x1_11 = some r → (fun r => r = out) r → W p l e (headSpec wsX7_cover ({ frames := 3, cells := 0, slots := 0, locals := 75 })).room s m [.ref (ad 5), .int p1, .int p2, .int 0, .int p4].toArray below meth c H locs 0 0 (MQ below (kQ D vwCl (some (.int out.1)) (wX ad ck f0 g0 a0) (wX ad ck out.2.1 out.2.2.1 out.2.2.2)) [.ref (ad 5), .int p1, .int p2, .int 0, .int p4].toArray s 0 0 (kAd (wX ad ck f0 g0 a0))) (F0 m 11 ls []) := by
    intro f11 g11 a11 H locs x1_11 ls hP hD hS hl r hF hp
    unfold N_X7_cover_0_11 at hF
    refine lv_iload_n hx hb dX7_cover_11 rfl (lv_at hl 0 rfl) ?_
    refine lv_if_ne (tgt := 19) hx hb dX7_cover_12 (by decide) (fun hc2 => ?_) (fun hc2 => ?_)
    · have hF := it_n hc2 hF
      refine lv_iconst (v := 0) hx hb dX7_cover_19 (by decide) ?_
      have hF := (Option.some.inj hF).trans hp
      subst hF
      exact W.zret hx hb hr rfl (fun t ht hW => ⟨rfl, by rw [ht]; exact hP, hS.F ht⟩) hS.2.2 dX7_cover_20
    · have hF := it_p hc2 hF
      refine lv_iconst (v := 1) hx hb dX7_cover_15 (by decide) ?_
      refine lv_goto (tgt := 20) hx hb dX7_cover_16 (by decide) ?_
      have hF := (Option.some.inj hF).trans hp
      subst hF
      exact W.zret hx hb hr rfl (fun t ht hW => ⟨rfl, by rw [ht]; exact hP, hS.F ht⟩) hS.2.2 dX7_cover_20
  have hN_24 : ∀ (x1_24 : Int32) (x4_24 : Int32) (n24 : Nat) (f24 : Nat → Int32) (g24 : Nat → Int64) (a24 : Nat → Nat → Int32) (H : Heap) (locs : List Loc) (x5_24 : Int32) (ls : Array Slot), va_P D vwCl (wX ad ck f24 g24 a24) H → va_D (kAd (wX ad ck f0 g0 a0)) (wX ad ck f24 g24 a24) → va_S (kAd (wX ad ck f0 g0 a0)) s.heap H locs → lv_has ls 6 [(0, .ref (ad 5)), (1, .int x1_24), (3, .int 0), (4, .int x4_24), (5, .int x5_24)] → ∀ r : (Int32 × ST), lpN (fun q24 : (Int32 × ST) => B_X7_cover_0_24 q24.2.1 q24.2.2.1 q24.2.2.2 x1_24 x4_24 q24.1) n24 (x5_24, f24, g24, a24) = some r → (fun r => r = out) r → W p l e (headSpec wsX7_cover ({ frames := 3, cells := 0, slots := 0, locals := 75 })).room s m [.ref (ad 5), .int p1, .int p2, .int 0, .int p4].toArray below meth c H locs 0 0 (MQ below (kQ D vwCl (some (.int out.1)) (wX ad ck f0 g0 a0) (wX ad ck out.2.1 out.2.2.1 out.2.2.2)) [.ref (ad 5), .int p1, .int p2, .int 0, .int p4].toArray s 0 0 (kAd (wX ad ck f0 g0 a0))) (F0 m 24 ls []) := by
    intro x1_24 x4_24 n24
    induction n24 with
    | zero => intro f24 g24 a24 H locs x5_24 ls hP hD hS hl r hF hp; exact (lp_z hF).elim
    | succ n24 ih24 =>
      intro f24 g24 a24 H locs x5_24 ls hP hD hS hl r hF hp
      obtain ⟨rs, hF, hp⟩ := lpN_K (P := (fun r => r = out)) hF hp
      unfold B_X7_cover_0_24 at hF
      refine lv_iload hx hb dX7_cover_24 (lv_at hl 4 rfl) ?_
      refine lv_aload_n hx hb dX7_cover_26 rfl (lv_at hl 0 rfl) ?_
      refine va_get (D := D) (ci := 7) (v := .int (f24 14)) (C := RX7) (T := TX7) (N := 4) hx hb hts hiX7 hown hK hP 5 rfl rfl 1 (by decide) hf53 (fun _ h9 => h9) rfl dX7_cover_27 ?_
      refine lv_icmp_ge (tgt := 80) hx hb dX7_cover_30 (by decide) (fun hc4 => ?_) (fun hc4 => ?_)
      · have hF := it_p hc4 hF
        obtain ⟨r, hF1, hr0⟩ := mp_s hF
        clear hF
        subst hr0
        have hF := hF1
        clear hF1
        have hp : (fun r => r = out) r := hp
        refine lv_iconst (v := 0) hx hb dX7_cover_80 (by decide) ?_
        have hF := (Option.some.inj hF).trans hp
        subst hF
        exact W.zret hx hb hr rfl (fun t ht hW => ⟨rfl, by rw [ht]; exact hP, hS.F ht⟩) hS.2.2 dX7_cover_81
      · have hF := it_n hc4 hF
        refine lv_aload_n hx hb dX7_cover_33 rfl (lv_at hl 0 rfl) ?_
        refine lv_iload_n hx hb dX7_cover_34 rfl (lv_at hl 1 rfl) ?_
        refine lv_aload_n hx hb dX7_cover_35 rfl (lv_at hl 0 rfl) ?_
        refine va_get (D := D) (ci := 7) (v := .ref (ad 26)) (C := RX7) (T := TX7) (N := 4) hx hb hts hiX7 hown hK hP 5 rfl rfl 0 (by decide) hf9 (fun _ h9 => h9) rfl dX7_cover_36 ?_
        refine lv_iload hx hb dX7_cover_39 (lv_at hl 4 rfl) ?_
        refine kS_i (va_runSN (As := [.ref (ad 26), .int x5_24]) (rest := [.int x1_24, .ref (ad 5)]) ⟨hx, hb, hml, hown, hts⟩ (c_X11_at l hz D (tX ck) (wX ad ck f24 g24 a24) 26 13 rfl rfl (by decide) x5_24) ⟨va_cnB 2 hts gX7_cover_X11_at_n68 rfl rfl rfl (hE.2.1 _ knX7_68) (hts (.initialized RX11) (by decide +kernel)) pX11_at ⟨Nat.le_of_ble_eq_true rfl, Nat.le_of_ble_eq_true rfl⟩, hts (.static yX11_at) (by decide +kernel), trivial⟩ (kR.preS hP (hE.kept hS hnA)) rfl rfl hl.1 rfl (lv_room (Nat.le_of_ble_eq_true rfl)) dX7_cover_41 ⟨Nat.le_refl _, Nat.le_refl _⟩) ?_
        refine lv_iconst (v := (-1)) hx hb dX7_cover_44 (by decide) ?_
        refine lv_ixor hx hb dX7_cover_45 ?_
        refine lv_iand hx hb dX7_cover_46 ?_
        refine lv_iload hx hb dX7_cover_47 (lv_at hl 4 rfl) ?_
        refine lv_iconst (v := 1) hx hb dX7_cover_49 (by decide) ?_
        refine lv_iadd hx hb dX7_cover_50 ?_
        refine lv_iload_n hx hb dX7_cover_51 rfl (lv_at hl 2 rfl) ?_
        refine lv_iconst (v := 1) hx hb dX7_cover_52 (by decide) ?_
        refine lv_iadd hx hb dX7_cover_53 ?_
        refine lv_topi (fun yc hyc => ?_)
        have hyc : yc = 1 := hyc.trans (by decide)
        subst hyc
        refine lv_iload hx hb dX7_cover_54 (lv_at hl 3 rfl) ?_
        obtain ⟨r5, he5, hF⟩ := bd_s hF
        refine kS_w (va_runV (As := [.int (x1_24 &&& ((F_at 32 (a24 26) x5_24) ^^^ (-1 : Int32))), .int (x5_24 + (1 : Int32)), .int 1, .int x4_24]) (rest := []) ⟨hx, hb, hml, hown, hts⟩ (c_X7_cover_1 l hz D ad ck f24 g24 a24 (x1_24 &&& ((F_at 32 (a24 26) x5_24) ^^^ (-1 : Int32))) (x5_24 + (1 : Int32)) x4_24 r5 he5) (cwV 4 hts gX7_cover_X7_cover rfl rfl rfl ⟨rfl, pX7_cover⟩ ⟨Nat.le_of_ble_eq_true rfl, Nat.le_of_ble_eq_true rfl⟩) (kW.preV (va_recv hK hP (ci := 7) (q0 := 5) rfl rfl) hP (hE.kept hS hnA) hD hnA) rfl rfl hl.1 rfl (lv_room (Nat.le_of_ble_eq_true rfl)) dX7_cover_56 ⟨Nat.le_refl _, Nat.le_refl _⟩) hD hS rfl (fun H locs hP hD hS => ?_)
        refine lv_if_eq (tgt := 74) hx hb dX7_cover_59 (by decide) (fun hc6 => ?_) (fun hc6 => ?_)
        · have hF := it_p hc6 hF
          refine lv_iinc (v := (x5_24 + 1)) (lv' := [(5, .int (x5_24 + 1)), (0, .ref (ad 5)), (1, .int x1_24), (3, .int 0), (4, .int x4_24)]) hx hb dX7_cover_74 hl (k := 4) rfl rfl (by decide) rfl (fun ls hl => ?_)
          refine lv_goto (tgt := 24) hx hb dX7_cover_77 (by decide) ?_
          have hF := Option.some.inj hF
          subst hF
          obtain ⟨r, hF, hp⟩ := hp
          exact ih24 r5.2.1 r5.2.2.1 r5.2.2.2 _ _ (x5_24 + 1) ls hP hD hS (lv_sub hl [1, 2, 3, 4, 0] rfl) r hF hp
        · have hF := it_n hc6 hF
          obtain ⟨r, hF1, hr0⟩ := mp_s hF
          clear hF
          subst hr0
          have hF := hF1
          clear hF1
          have hp : (fun r => r = out) r := hp
          refine lv_aload_n hx hb dX7_cover_62 rfl (lv_at hl 0 rfl) ?_
          refine va_get (D := D) (ci := 7) (v := .ref (ad 27)) (C := RX7) (T := TX7) (N := 4) hx hb hts hiX7 hown hK hP 5 rfl rfl 2 (by decide) hf15 (fun _ h9 => h9) rfl dX7_cover_63 ?_
          refine lv_iload_n hx hb dX7_cover_66 rfl (lv_at hl 2 rfl) ?_
          refine lv_iload hx hb dX7_cover_67 (lv_at hl 4 rfl) ?_
          refine kS_w (va_runSN (As := [.ref (ad 27), .int 0, .int x5_24]) (rest := []) ⟨hx, hb, hml, hown, hts⟩ (c_X11_put l hz D (tX ck) (wX ad ck r5.2.1 r5.2.2.1 r5.2.2.2) 27 14 rfl rfl (by decide) 0 x5_24) ⟨va_cnB 3 hts gX7_cover_X11_put_n60 rfl rfl rfl (hE.2.1 _ knX7_60) (hts (.initialized RX11) (by decide +kernel)) pX11_put ⟨Nat.le_of_ble_eq_true rfl, Nat.le_of_ble_eq_true rfl⟩, hts (.static yX11_put) (by decide +kernel), trivial⟩ (kW.preS hP (hE.kept hS hnA) hD hnA) rfl rfl hl.1 rfl (lv_room (Nat.le_of_ble_eq_true rfl)) dX7_cover_69 ⟨Nat.le_refl _, Nat.le_refl _⟩) hD hS (kSet_fst rfl) (fun H locs hP hD hS => ?_)
          have hP := kPe (es_wX27 ad ck r5.2.1 r5.2.2.1 r5.2.2.2 (F_put 3 (r5.2.2.2 27) 0 x5_24)) hP
          have hD := kDe (es_wX27 ad ck r5.2.1 r5.2.2.1 r5.2.2.2 (F_put 3 (r5.2.2.2 27) 0 x5_24)) hD
          refine lv_iconst (v := 1) hx hb dX7_cover_72 (by decide) ?_
          have hF := (Option.some.inj hF).trans hp
          subst hF
          exact W.zret hx hb hr rfl (fun t ht hW => ⟨rfl, by rw [ht]; exact hP, hS.F ht⟩) hS.2.2 dX7_cover_73
  have hl := lv_entry ([.ref (ad 5), .int p1, .int p2, .int 0, .int p4]) (n := 6) (Nat.le_of_ble_eq_true rfl)
  rw [lg_entry_eq]
  generalize (lg_sl ([.ref (ad 5), .int p1, .int p2, .int 0, .int p4]) ++ List.replicate (6 - (lg_sl ([.ref (ad 5), .int p1, .int p2, .int 0, .int p4])).length) Slot.unset).toArray = ls at hl ⊢
  have hl : lv_has ls 6 [(0, .ref (ad 5)), (1, .int p1), (2, .int p2), (3, .int 0), (4, .int p4)] := hl
  obtain ⟨r, hF, hp⟩ : ∃ r, F_X7_cover_0 f0 g0 a0 p1 p2 p4 = some r ∧ r = out := ⟨out, hF, rfl⟩
  unfold F_X7_cover_0 at hF
  refine lv_iload_n hx hb dX7_cover_0 rfl (lv_at hl 3 rfl) ?_
  refine lv_iload hx hb dX7_cover_1 (lv_at hl 4 rfl) ?_
  refine lv_icmp_ge (tgt := 11) hx hb dX7_cover_3 (by decide) (fun hc1 => ?_) (fun hc1 => ?_)
  · have hF := it_p hc1 hF
    exact hN_11 f0 g0 a0 _ _ p1 ls hP hD hS (lv_sub hl [1] rfl) _ hF hp
  · have hF := it_n hc1 hF
    refine lv_iload_n hx hb dX7_cover_6 rfl (lv_at hl 3 rfl) ?_
    refine lv_iconst (v := 3) hx hb dX7_cover_7 (by decide) ?_
    refine lv_icmp_lt (tgt := 21) hx hb dX7_cover_8 (by decide) (fun hc3 => ?_) (fun hc3 => ?_)
    · refine lv_iload_n hx hb dX7_cover_21 rfl (lv_at hl 2 rfl) ?_
      refine lv_istore (lv' := [(5, .int p2), (0, .ref (ad 5)), (1, .int p1), (2, .int p2), (3, .int 0), (4, .int p4)]) hx hb dX7_cover_22 hl (by decide) rfl (fun ls hl => ?_)
      exact hN_24 p1 p4 kFu f0 g0 a0 _ _ p2 ls hP hD hS (lv_sub hl [1, 2, 4, 5, 0] rfl) _ hF hp
    · exact absurd (by decide) hc3

def B_X7_planDays_48 (f48 : Nat → Int32) (g48 : Nat → Int64) (a48 : Nat → Nat → Int32) (x2_48 : Int32) (x3_48 : Int32) : Option ((Int32 × ST) ⊕ (Int32 × ST)) := if 3 < x3_48 then Option.map Sum.inr (some ((-1), f48, g48, a48)) else (F_X7_cover_0 f48 g48 a48 x2_48 1 x3_48).bind fun r4 => if r4.1 = 0 then some (.inl ((x3_48 + 1), r4.2.1, r4.2.2.1, r4.2.2.2)) else Option.map Sum.inr (some (x3_48, r4.2.1, r4.2.2.1, r4.2.2.2))
def N_X7_planDays_48 (f48 : Nat → Int32) (g48 : Nat → Int64) (a48 : Nat → Nat → Int32) (x2_48 : Int32) (x3_48 : Int32) : Option (Int32 × ST) := lpN (fun q48 : (Int32 × ST) => B_X7_planDays_48 q48.2.1 q48.2.2.1 q48.2.2.2 x2_48 q48.1) kFu (x3_48, f48, g48, a48)
def B_X7_planDays_18 (f18 : Nat → Int32) (g18 : Nat → Int64) (a18 : Nat → Nat → Int32) (x2_18 : Int32) (x3_18 : Int32) : Option ((Int32 × ST) ⊕ (Int32 × ST)) := if (f18 14) ≤ x3_18 then Option.map Sum.inr (N_X7_planDays_48 f18 g18 a18 x2_18 1) else (F_X7_whoIsWritten f18 g18 a18 x3_18).bind fun r6 => some (.inl ((x3_18 + 1), f18, g18, (us a18 26 (F_put 32 (a18 26) x3_18 r6))))
def N_X7_planDays_18 (f18 : Nat → Int32) (g18 : Nat → Int64) (a18 : Nat → Nat → Int32) (x2_18 : Int32) (x3_18 : Int32) : Option (Int32 × ST) := lpN (fun q18 : (Int32 × ST) => B_X7_planDays_18 q18.2.1 q18.2.2.1 q18.2.2.2 x2_18 q18.1) kFu (x3_18, f18, g18, a18)
def F_X7_planDays (f0 : Nat → Int32) (g0 : Nat → Int64) (a0 : Nat → Nat → Int32) (p2 : Int32) : Option (Int32 × ST) := if p2 = 0 then some (0, f0, g0, a0) else N_X7_planDays_18 (upd f0 14 ((1 : Int32) <<< ((f0 5) &&& 31))) g0 a0 p2 0
set_option maxHeartbeats 4000000 in
set_option maxRecDepth 100000 in
theorem c_X7_planDays (l : Launch) (hz : Nat) (D : va_G) (ad : Nat → Nat) (ck : Nat → ClassId) (f0 : Nat → Int32) (g0 : Nat → Int64) (a0 : Nat → Nat → Int32) (p2 : Int32) (out : (Int32 × ST)) (hF : F_X7_planDays f0 g0 a0 p2 = some out) : Met l yX7_planDays wsX7_planDays ({ frames := 5, cells := 0, slots := 0, locals := 118 }) (kW hz D vwCl (tX ck) (wX ad ck f0 g0 a0) [.ref (ad 5), .ref (ad 2), .int p2]) (kQ D vwCl (some (.int out.1)) (wX ad ck f0 g0 a0) (wX ad ck out.2.1 out.2.2.1 out.2.2.2)) 0 0 (kAd (wX ad ck f0 g0 a0)) := by
  refine Met.ofW (cc := cX7_planDays) (maxL := 4) (ret := (some .int)) (by decide) rfl ?_
  intro p e s m args below meth c s₁ B hml hv
  obtain ⟨rfl, hP, hE, hD0⟩ := hv
  have hx := B.exec
  have hb := B.bytes
  have hr := B.returns
  have hts := atoms_spec (ws := wsX7_planDays) B.pre
  have hown : s.vm.findClass RX7 = some m.cls := findClass_of_methodNamed B.named
  have hlocks := B.notSynchronized
  have hK := hE.1
  have hnA := kAd_up hD0
  have hD := kD_self hD0
  have hS : va_S (kAd (wX ad ck f0 g0 a0)) s.heap s.heap [] := va_S.rf
  have hiX7 : ∀ w ∈ u_ws RX7 TX7 4, w ∈ wsX7_planDays := by decide +kernel
  have hiX9 : ∀ w ∈ u_ws RX9 TX9 4, w ∈ wsX7_planDays := by decide +kernel
  have hf9 := hts (.fieldLink RX7 9 "SpeltByFriends$Plans" "writtenIn" "[I") (by decide +kernel)
  have hf18 := hts (.fieldLink RX7 18 "SpeltByFriends$Town" "size" "I") (by decide +kernel)
  have hf53 := hts (.fieldLink RX7 53 "SpeltByFriends$Plans" "companiesEnd" "I") (by decide +kernel)
  have hN_48 : ∀ (x2_48 : Int32) (n48 : Nat) (f48 : Nat → Int32) (g48 : Nat → Int64) (a48 : Nat → Nat → Int32) (H : Heap) (locs : List Loc) (x3_48 : Int32) (ls : Array Slot), va_P D vwCl (wX ad ck f48 g48 a48) H → va_D (kAd (wX ad ck f0 g0 a0)) (wX ad ck f48 g48 a48) → va_S (kAd (wX ad ck f0 g0 a0)) s.heap H locs → lv_has ls 4 [(0, .ref (ad 5)), (2, .int x2_48), (3, .int x3_48)] → ∀ r : (Int32 × ST), lpN (fun q48 : (Int32 × ST) => B_X7_planDays_48 q48.2.1 q48.2.2.1 q48.2.2.2 x2_48 q48.1) n48 (x3_48, f48, g48, a48) = some r → (fun r => r = out) r → W p l e (headSpec wsX7_planDays ({ frames := 5, cells := 0, slots := 0, locals := 118 })).room s m [.ref (ad 5), .ref (ad 2), .int p2].toArray below meth c H locs 0 0 (MQ below (kQ D vwCl (some (.int out.1)) (wX ad ck f0 g0 a0) (wX ad ck out.2.1 out.2.2.1 out.2.2.2)) [.ref (ad 5), .ref (ad 2), .int p2].toArray s 0 0 (kAd (wX ad ck f0 g0 a0))) (F0 m 48 ls []) := by
    intro x2_48 n48
    induction n48 with
    | zero => intro f48 g48 a48 H locs x3_48 ls hP hD hS hl r hF hp; exact (lp_z hF).elim
    | succ n48 ih48 =>
      intro f48 g48 a48 H locs x3_48 ls hP hD hS hl r hF hp
      obtain ⟨rs, hF, hp⟩ := lpN_K (P := (fun r => r = out)) hF hp
      unfold B_X7_planDays_48 at hF
      refine lv_iload_n hx hb dX7_planDays_48 rfl (lv_at hl 2 rfl) ?_
      refine lv_iconst (v := 3) hx hb dX7_planDays_49 (by decide) ?_
      refine lv_icmp_gt (tgt := 72) hx hb dX7_planDays_50 (by decide) (fun hc3 => ?_) (fun hc3 => ?_)
      · have hF := it_p hc3 hF
        obtain ⟨r, hF1, hr0⟩ := mp_s hF
        clear hF
        subst hr0
        have hF := hF1
        clear hF1
        have hp : (fun r => r = out) r := hp
        refine lv_iconst (v := (-1)) hx hb dX7_planDays_72 (by decide) ?_
        have hF := (Option.some.inj hF).trans hp
        subst hF
        exact W.iret hx hb hr (fun t ht hW => ⟨rfl, by rw [ht]; exact hP, hS.F ht⟩) hS.2.2 dX7_planDays_73
      · have hF := it_n hc3 hF
        refine lv_aload_n hx hb dX7_planDays_53 rfl (lv_at hl 0 rfl) ?_
        refine lv_iload_n hx hb dX7_planDays_54 rfl (lv_at hl 1 rfl) ?_
        refine lv_iconst (v := 1) hx hb dX7_planDays_55 (by decide) ?_
        refine lv_iconst (v := 0) hx hb dX7_planDays_56 (by decide) ?_
        refine lv_iload_n hx hb dX7_planDays_57 rfl (lv_at hl 2 rfl) ?_
        obtain ⟨r4, he4, hF⟩ := bd_s hF
        refine kS_w (va_runV (As := [.int x2_48, .int 1, .int 0, .int x3_48]) (rest := []) ⟨hx, hb, hml, hown, hts⟩ (c_X7_cover_0 l hz D ad ck f48 g48 a48 x2_48 1 x3_48 r4 he4) (cwV 4 hts gX7_planDays_X7_cover rfl rfl rfl ⟨rfl, pX7_cover⟩ ⟨Nat.le_of_ble_eq_true rfl, Nat.le_of_ble_eq_true rfl⟩) (kW.preV (va_recv hK hP (ci := 7) (q0 := 5) rfl rfl) hP (hE.kept hS hnA) hD hnA) rfl rfl hl.1 rfl (lv_room (Nat.le_of_ble_eq_true rfl)) dX7_planDays_58 ⟨Nat.le_refl _, Nat.le_refl _⟩) hD hS rfl (fun H locs hP hD hS => ?_)
        refine lv_if_eq (tgt := 66) hx hb dX7_planDays_61 (by decide) (fun hc5 => ?_) (fun hc5 => ?_)
        · have hF := it_p hc5 hF
          refine lv_iinc (v := (x3_48 + 1)) (lv' := [(3, .int (x3_48 + 1)), (0, .ref (ad 5)), (2, .int x2_48)]) hx hb dX7_planDays_66 hl (k := 2) rfl rfl (by decide) rfl (fun ls hl => ?_)
          refine lv_goto (tgt := 48) hx hb dX7_planDays_69 (by decide) ?_
          have hF := Option.some.inj hF
          subst hF
          obtain ⟨r, hF, hp⟩ := hp
          exact ih48 r4.2.1 r4.2.2.1 r4.2.2.2 _ _ (x3_48 + 1) ls hP hD hS (lv_sub hl [1, 2, 0] rfl) r hF hp
        · have hF := it_n hc5 hF
          obtain ⟨r, hF1, hr0⟩ := mp_s hF
          clear hF
          subst hr0
          have hF := hF1
          clear hF1
          have hp : (fun r => r = out) r := hp
          refine lv_iload_n hx hb dX7_planDays_64 rfl (lv_at hl 2 rfl) ?_
          have hF := (Option.some.inj hF).trans hp
          subst hF
          exact W.iret hx hb hr (fun t ht hW => ⟨rfl, by rw [ht]; exact hP, hS.F ht⟩) hS.2.2 dX7_planDays_65
  have hN_18 : ∀ (x2_18 : Int32) (n18 : Nat) (f18 : Nat → Int32) (g18 : Nat → Int64) (a18 : Nat → Nat → Int32) (H : Heap) (locs : List Loc) (x3_18 : Int32) (ls : Array Slot), va_P D vwCl (wX ad ck f18 g18 a18) H → va_D (kAd (wX ad ck f0 g0 a0)) (wX ad ck f18 g18 a18) → va_S (kAd (wX ad ck f0 g0 a0)) s.heap H locs → lv_has ls 4 [(0, .ref (ad 5)), (1, .ref (ad 2)), (2, .int x2_18), (3, .int x3_18)] → ∀ r : (Int32 × ST), lpN (fun q18 : (Int32 × ST) => B_X7_planDays_18 q18.2.1 q18.2.2.1 q18.2.2.2 x2_18 q18.1) n18 (x3_18, f18, g18, a18) = some r → (fun r => r = out) r → W p l e (headSpec wsX7_planDays ({ frames := 5, cells := 0, slots := 0, locals := 118 })).room s m [.ref (ad 5), .ref (ad 2), .int p2].toArray below meth c H locs 0 0 (MQ below (kQ D vwCl (some (.int out.1)) (wX ad ck f0 g0 a0) (wX ad ck out.2.1 out.2.2.1 out.2.2.2)) [.ref (ad 5), .ref (ad 2), .int p2].toArray s 0 0 (kAd (wX ad ck f0 g0 a0))) (F0 m 18 ls []) := by
    intro x2_18 n18
    induction n18 with
    | zero => intro f18 g18 a18 H locs x3_18 ls hP hD hS hl r hF hp; exact (lp_z hF).elim
    | succ n18 ih18 =>
      intro f18 g18 a18 H locs x3_18 ls hP hD hS hl r hF hp
      obtain ⟨rs, hF, hp⟩ := lpN_K (P := (fun r => r = out)) hF hp
      unfold B_X7_planDays_18 at hF
      refine lv_iload_n hx hb dX7_planDays_18 rfl (lv_at hl 3 rfl) ?_
      refine lv_aload_n hx hb dX7_planDays_19 rfl (lv_at hl 0 rfl) ?_
      refine va_get (D := D) (ci := 7) (v := .int (f18 14)) (C := RX7) (T := TX7) (N := 4) hx hb hts hiX7 hown hK hP 5 rfl rfl 1 (by decide) hf53 (fun _ h9 => h9) rfl dX7_planDays_20 ?_
      refine lv_icmp_ge (tgt := 46) hx hb dX7_planDays_23 (by decide) (fun hc2 => ?_) (fun hc2 => ?_)
      · have hF := it_p hc2 hF
        obtain ⟨r, hF1, hr0⟩ := mp_s hF
        clear hF
        subst hr0
        have hF := hF1
        clear hF1
        have hp : (fun r => r = out) r := hp
        refine lv_iconst (v := 1) hx hb dX7_planDays_46 (by decide) ?_
        refine lv_istore_n (lv' := [(3, .int 1), (0, .ref (ad 5)), (1, .ref (ad 2)), (2, .int x2_18)]) hx hb dX7_planDays_47 rfl hl (by decide) rfl (fun ls hl => ?_)
        exact hN_48 x2_18 kFu f18 g18 a18 _ _ 1 ls hP hD hS (lv_sub hl [1, 3, 0] rfl) _ hF hp
      · have hF := it_n hc2 hF
        refine lv_aload_n hx hb dX7_planDays_26 rfl (lv_at hl 0 rfl) ?_
        refine va_get (D := D) (ci := 7) (v := .ref (ad 26)) (C := RX7) (T := TX7) (N := 4) hx hb hts hiX7 hown hK hP 5 rfl rfl 0 (by decide) hf9 (fun _ h9 => h9) rfl dX7_planDays_27 ?_
        refine lv_iload_n hx hb dX7_planDays_30 rfl (lv_at hl 3 rfl) ?_
        refine lv_aload_n hx hb dX7_planDays_31 rfl (lv_at hl 0 rfl) ?_
        refine lv_aload_n hx hb dX7_planDays_32 rfl (lv_at hl 1 rfl) ?_
        refine lv_iload_n hx hb dX7_planDays_33 rfl (lv_at hl 3 rfl) ?_
        obtain ⟨r6, he6, hF⟩ := bd_s hF
        refine kS_i (va_runV (As := [.ref (ad 2), .int x3_18]) (rest := [.int x3_18, .ref (ad 26)]) ⟨hx, hb, hml, hown, hts⟩ (c_X7_whoIsWritten l hz D ad ck f18 g18 a18 x3_18 r6 he6) (cwV 2 hts gX7_planDays_X7_whoIsWritten rfl rfl rfl ⟨rfl, pX7_whoIsWritten⟩ ⟨Nat.le_of_ble_eq_true rfl, Nat.le_of_ble_eq_true rfl⟩) (kR.preV (va_recv hK hP (ci := 7) (q0 := 5) rfl rfl) hP (hE.kept hS hnA)) rfl rfl hl.1 rfl (lv_room (Nat.le_of_ble_eq_true rfl)) dX7_planDays_34 ⟨Nat.le_refl _, Nat.le_refl _⟩) ?_
        refine kS_w (va_runSN (As := [.ref (ad 26), .int x3_18, .int r6]) (rest := []) ⟨hx, hb, hml, hown, hts⟩ (c_X11_put l hz D (tX ck) (wX ad ck f18 g18 a18) 26 13 rfl rfl (by decide) x3_18 r6) ⟨va_cnB 3 hts gX7_planDays_X11_put_n60 rfl rfl rfl (hE.2.1 _ knX7_60) (hts (.initialized RX11) (by decide +kernel)) pX11_put ⟨Nat.le_of_ble_eq_true rfl, Nat.le_of_ble_eq_true rfl⟩, hts (.static yX11_put) (by decide +kernel), trivial⟩ (kW.preS hP (hE.kept hS hnA) hD hnA) rfl rfl hl.1 rfl (lv_room (Nat.le_of_ble_eq_true rfl)) dX7_planDays_37 ⟨Nat.le_refl _, Nat.le_refl _⟩) hD hS (kSet_fst rfl) (fun H locs hP hD hS => ?_)
        have hP := kPe (es_wX26 ad ck f18 g18 a18 (F_put 32 (a18 26) x3_18 r6)) hP
        have hD := kDe (es_wX26 ad ck f18 g18 a18 (F_put 32 (a18 26) x3_18 r6)) hD
        refine lv_iinc (v := (x3_18 + 1)) (lv' := [(3, .int (x3_18 + 1)), (0, .ref (ad 5)), (1, .ref (ad 2)), (2, .int x2_18)]) hx hb dX7_planDays_40 hl (k := 3) rfl rfl (by decide) rfl (fun ls hl => ?_)
        refine lv_goto (tgt := 18) hx hb dX7_planDays_43 (by decide) ?_
        have hF := Option.some.inj hF
        subst hF
        obtain ⟨r, hF, hp⟩ := hp
        exact ih18 f18 g18 (us a18 26 (F_put 32 (a18 26) x3_18 r6)) _ _ (x3_18 + 1) ls hP hD hS (lv_sub hl [1, 2, 3, 0] rfl) r hF hp
  have hl := lv_entry ([.ref (ad 5), .ref (ad 2), .int p2]) (n := 4) (Nat.le_of_ble_eq_true rfl)
  rw [lg_entry_eq]
  generalize (lg_sl ([.ref (ad 5), .ref (ad 2), .int p2]) ++ List.replicate (4 - (lg_sl ([.ref (ad 5), .ref (ad 2), .int p2])).length) Slot.unset).toArray = ls at hl ⊢
  have hl : lv_has ls 4 [(0, .ref (ad 5)), (1, .ref (ad 2)), (2, .int p2)] := hl
  obtain ⟨r, hF, hp⟩ : ∃ r, F_X7_planDays f0 g0 a0 p2 = some r ∧ r = out := ⟨out, hF, rfl⟩
  unfold F_X7_planDays at hF
  refine lv_iload_n hx hb dX7_planDays_0 rfl (lv_at hl 2 rfl) ?_
  refine lv_if_ne (tgt := 6) hx hb dX7_planDays_1 (by decide) (fun hc1 => ?_) (fun hc1 => ?_)
  · have hF := it_n hc1 hF
    refine lv_aload_n hx hb dX7_planDays_6 rfl (lv_at hl 0 rfl) ?_
    refine lv_iconst (v := 1) hx hb dX7_planDays_7 (by decide) ?_
    refine lv_aload_n hx hb dX7_planDays_8 rfl (lv_at hl 1 rfl) ?_
    refine va_get (D := D) (ci := 9) (v := .int (f0 5)) (C := RX9) (T := TX9) (N := 4) hx hb hts hiX9 hown hK hP 2 rfl rfl 3 (by decide) hf18 (fun _ h9 => h9) rfl dX7_planDays_9 ?_
    refine lv_ishl hx hb dX7_planDays_12 ?_
    refine va_put (D := D) (ci := 7) (v := .int ((1 : Int32) <<< ((f0 5) &&& 31))) (ty := .int) (C := RX7) (T := TX7) (N := 4) hx hb hts hiX7 tyX7 tyX7_ok nmX7 hown hK hP hD hS 5 rfl rfl 1 (by decide) hf53 (fun _ h9 => h9) rfl (tyX7_ok 1 (by decide)) rfl rfl (Nat.le_of_ble_eq_true rfl) dX7_planDays_13 (fun H locs hP hD hS => ?_)
    have hP := kPe (ef_wX5_1 ad ck f0 g0 a0 ((1 : Int32) <<< ((f0 5) &&& 31))) hP
    have hD := kDe (ef_wX5_1 ad ck f0 g0 a0 ((1 : Int32) <<< ((f0 5) &&& 31))) hD
    refine lv_iconst (v := 0) hx hb dX7_planDays_16 (by decide) ?_
    refine lv_istore_n (lv' := [(3, .int 0), (0, .ref (ad 5)), (1, .ref (ad 2)), (2, .int p2)]) hx hb dX7_planDays_17 rfl hl (by decide) rfl (fun ls hl => ?_)
    exact hN_18 p2 kFu (upd f0 14 ((1 : Int32) <<< ((f0 5) &&& 31))) g0 a0 _ _ 0 ls hP hD hS (lv_sub hl [1, 2, 3, 0] rfl) _ hF hp
  · have hF := it_p hc1 hF
    refine lv_iconst (v := 0) hx hb dX7_planDays_4 (by decide) ?_
    have hF := (Option.some.inj hF).trans hp
    subst hF
    exact W.iret hx hb hr (fun t ht hW => ⟨rfl, by rw [ht]; exact hP, hS.F ht⟩) hS.2.2 dX7_planDays_5
