/-! ===== the class, by program (tools/gen.py) ===== -/
def N_X1_agrees_84 (f0 : Nat → Int32) (g0 : Nat → Int64) (a0 : Nat → Nat → Int32) (x2_9 : Int32) (x3_9 : Int32) (x5_84 : Int32) : Option ((Int32) ⊕ Int32) := some (.inl (x5_84 + 1))
def N_X1_agrees_79 (f0 : Nat → Int32) (g0 : Nat → Int64) (a0 : Nat → Nat → Int32) (x2_9 : Int32) (x3_9 : Int32) (x5_79 : Int32) (t0_79 : Int32) (t1_79 : Int32) : Option ((Int32) ⊕ Int32) := if t1_79 = t0_79 then N_X1_agrees_84 f0 g0 a0 x2_9 x3_9 x5_79 else Option.map Sum.inr (some 0)
def B_X1_agrees_9 (f0 : Nat → Int32) (g0 : Nat → Int64) (a0 : Nat → Nat → Int32) (x2_9 : Int32) (x3_9 : Int32) (x5_9 : Int32) : Option ((Int32) ⊕ Int32) := if (f0 7) ≤ x5_9 then Option.map Sum.inr (some 1) else if (F_at 6 (a0 17) x5_9) = (f0 16) then if (F_at 6 (a0 19) x5_9) = 1 then N_X1_agrees_79 f0 g0 a0 x2_9 x3_9 x5_9 1 (F_X9_couldWrite f0 g0 a0 (f0 16) (F_at 6 (a0 18) x5_9) x2_9 x3_9) else N_X1_agrees_79 f0 g0 a0 x2_9 x3_9 x5_9 0 (F_X9_couldWrite f0 g0 a0 (f0 16) (F_at 6 (a0 18) x5_9) x2_9 x3_9) else N_X1_agrees_84 f0 g0 a0 x2_9 x3_9 x5_9
def N_X1_agrees_9 (f0 : Nat → Int32) (g0 : Nat → Int64) (a0 : Nat → Nat → Int32) (x2_9 : Int32) (x3_9 : Int32) (x5_9 : Int32) : Option Int32 := lpN (fun q9 : (Int32) => B_X1_agrees_9 f0 g0 a0 x2_9 x3_9 q9) kFu x5_9
def F_X1_agrees (f0 : Nat → Int32) (g0 : Nat → Int64) (a0 : Nat → Nat → Int32) (p2 : Int32) (p3 : Int32) : Option Int32 := N_X1_agrees_9 f0 g0 a0 p2 p3 0
set_option maxHeartbeats 4000000 in
set_option maxRecDepth 100000 in
theorem c_X1_agrees (l : Launch) (hz : Nat) (D : va_G) (ad : Nat → Nat) (ck : Nat → ClassId) (f0 : Nat → Int32) (g0 : Nat → Int64) (a0 : Nat → Nat → Int32) (p2 : Int32) (p3 : Int32) (out : Int32) (hF : F_X1_agrees f0 g0 a0 p2 p3 = some out) : Met l yX1_agrees wsX1_agrees ({ frames := 3, cells := 0, slots := 0, locals := 72 }) (kR hz D vwCl (tX ck) (wX ad ck f0 g0 a0) [.ref (ad 6), .ref (ad 2), .int p2, .int p3]) (kZb out) 0 0 (fun _ => False) := by
  refine Met.ofW (cc := cX1_agrees) (maxL := 7) (ret := (some .boolean)) (by decide) rfl ?_
  intro p e s m args below meth c s₁ B hml hv
  obtain ⟨rfl, hP, hE⟩ := hv
  have hx := B.exec
  have hb := B.bytes
  have hr := B.returns
  have hts := atoms_spec (ws := wsX1_agrees) B.pre
  have hown : s.vm.findClass RX1 = some m.cls := findClass_of_methodNamed B.named
  have hlocks := B.notSynchronized
  have hK := hE.1
  have hiX1 : ∀ w ∈ u_ws RX1 TX1 4, w ∈ wsX1_agrees := by decide +kernel
  have hiX3 : ∀ w ∈ u_ws RX3 TX3 10, w ∈ wsX1_agrees := by decide +kernel
  have hiX9 : ∀ w ∈ u_ws RX9 TX9 4, w ∈ wsX1_agrees := by decide +kernel
  have hf18 := hts (.fieldLink RX1 18 "SpeltByFriends$Guesses" "person" "I") (by decide +kernel)
  have hf38 := hts (.fieldLink RX1 38 "SpeltByFriends$Town" "ledger" "LSpeltByFriends$Ledger;") (by decide +kernel)
  have hf42 := hts (.fieldLink RX1 42 "SpeltByFriends$Ledger" "heard" "I") (by decide +kernel)
  have hf47 := hts (.fieldLink RX1 47 "SpeltByFriends$Ledger" "heardOf" "[I") (by decide +kernel)
  have hf54 := hts (.fieldLink RX1 54 "SpeltByFriends$Ledger" "heardIn" "[I") (by decide +kernel)
  have hf61 := hts (.fieldLink RX1 61 "SpeltByFriends$Ledger" "heardYes" "[I") (by decide +kernel)
  have hN_9 : ∀ (x2_9 : Int32) (x3_9 : Int32) (n9 : Nat) (x5_9 : Int32) (ls : Array Slot), lv_has ls 7 [(0, .ref (ad 6)), (1, .ref (ad 2)), (2, .int x2_9), (3, .int x3_9), (4, .ref (ad 3)), (5, .int x5_9)] → ∀ r : Int32, lpN (fun q9 : (Int32) => B_X1_agrees_9 f0 g0 a0 x2_9 x3_9 q9) n9 x5_9 = some r → (fun r => r = out) r → W p l e (headSpec wsX1_agrees ({ frames := 3, cells := 0, slots := 0, locals := 72 })).room s m [.ref (ad 6), .ref (ad 2), .int p2, .int p3].toArray below meth c s.heap [] 0 0 (MQ below (kZb out) [.ref (ad 6), .ref (ad 2), .int p2, .int p3].toArray s 0 0 (fun _ => False)) (F0 m 9 ls []) := by
    intro x2_9 x3_9 n9
    induction n9 with
    | zero => intro x5_9 ls hl r hF hp; exact (lp_z hF).elim
    | succ n9 ih9 =>
      intro x5_9 ls hl r hF hp
      obtain ⟨rs, hF, hp⟩ := lpN_K (P := (fun r => r = out)) hF hp
      have hN_84 : ∀ (x5_84 : Int32) (ls : Array Slot), lv_has ls 7 [(0, .ref (ad 6)), (1, .ref (ad 2)), (2, .int x2_9), (3, .int x3_9), (4, .ref (ad 3)), (5, .int x5_84)] → ∀ r : ((Int32) ⊕ Int32), N_X1_agrees_84 f0 g0 a0 x2_9 x3_9 x5_84 = some r → (lpK (fun q9 : (Int32) => B_X1_agrees_9 f0 g0 a0 x2_9 x3_9 q9) n9 (fun r => r = out)) r → W p l e (headSpec wsX1_agrees ({ frames := 3, cells := 0, slots := 0, locals := 72 })).room s m [.ref (ad 6), .ref (ad 2), .int p2, .int p3].toArray below meth c s.heap [] 0 0 (MQ below (kZb out) [.ref (ad 6), .ref (ad 2), .int p2, .int p3].toArray s 0 0 (fun _ => False)) (F0 m 84 ls []) := by
        intro x5_84 ls hl r hF hp
        unfold N_X1_agrees_84 at hF
        refine lv_iinc (v := (x5_84 + 1)) (lv' := [(5, .int (x5_84 + 1)), (0, .ref (ad 6)), (1, .ref (ad 2)), (2, .int x2_9), (3, .int x3_9), (4, .ref (ad 3))]) hx hb dX1_agrees_84 hl (k := 5) rfl rfl (by decide) rfl (fun ls hl => ?_)
        refine lv_goto (tgt := 9) hx hb dX1_agrees_87 (by decide) ?_
        have hF := Option.some.inj hF
        subst hF
        obtain ⟨r, hF, hp⟩ := hp
        exact ih9 (x5_84 + 1) ls (lv_sub hl [1, 2, 3, 4, 5, 0] rfl) r hF hp
      have hN_79 : ∀ (x5_79 : Int32) (t0_79 : Int32) (t1_79 : Int32) (ls : Array Slot), lv_has ls 7 [(0, .ref (ad 6)), (1, .ref (ad 2)), (2, .int x2_9), (3, .int x3_9), (4, .ref (ad 3)), (5, .int x5_79)] → ∀ r : ((Int32) ⊕ Int32), N_X1_agrees_79 f0 g0 a0 x2_9 x3_9 x5_79 t0_79 t1_79 = some r → (lpK (fun q9 : (Int32) => B_X1_agrees_9 f0 g0 a0 x2_9 x3_9 q9) n9 (fun r => r = out)) r → W p l e (headSpec wsX1_agrees ({ frames := 3, cells := 0, slots := 0, locals := 72 })).room s m [.ref (ad 6), .ref (ad 2), .int p2, .int p3].toArray below meth c s.heap [] 0 0 (MQ below (kZb out) [.ref (ad 6), .ref (ad 2), .int p2, .int p3].toArray s 0 0 (fun _ => False)) (F0 m 79 ls [.int t0_79, .int t1_79]) := by
        intro x5_79 t0_79 t1_79 ls hl r hF hp
        unfold N_X1_agrees_79 at hF
        refine lv_icmp_eq (tgt := 84) hx hb dX1_agrees_79 (by decide) (fun hc5 => ?_) (fun hc5 => ?_)
        · have hF := it_p hc5 hF
          exact hN_84 x5_79 ls (lv_sub hl [0, 1, 2, 3, 4, 5] rfl) _ hF hp
        · have hF := it_n hc5 hF
          obtain ⟨r, hF1, hr0⟩ := mp_s hF
          clear hF
          subst hr0
          have hF := hF1
          clear hF1
          have hp : (fun r => r = out) r := hp
          refine lv_iconst (v := 0) hx hb dX1_agrees_82 (by decide) ?_
          have hv := (Option.some.inj hF).trans hp
          exact W.zret hx hb hr rfl (fun t ht hW => ⟨_, rfl, ⟨hv, by rw [← hv]; exact rfl⟩, ht⟩) (fun q hq => by cases hq) dX1_agrees_83
      unfold B_X1_agrees_9 at hF
      refine lv_iload hx hb dX1_agrees_9 (lv_at hl 5 rfl) ?_
      refine lv_aload hx hb dX1_agrees_11 (lv_at hl 4 rfl) ?_
      refine va_get (D := D) (ci := 3) (v := .int (f0 7)) (C := RX3) (T := TX3) (N := 10) hx hb hts hiX3 hown hK hP 3 rfl rfl 7 (by decide) hf42 (fun _ h9 => h9) rfl dX1_agrees_13 ?_
      refine lv_icmp_ge (tgt := 90) hx hb dX1_agrees_16 (by decide) (fun hc1 => ?_) (fun hc1 => ?_)
      · have hF := it_p hc1 hF
        obtain ⟨r, hF1, hr0⟩ := mp_s hF
        clear hF
        subst hr0
        have hF := hF1
        clear hF1
        have hp : (fun r => r = out) r := hp
        refine lv_iconst (v := 1) hx hb dX1_agrees_90 (by decide) ?_
        have hv := (Option.some.inj hF).trans hp
        exact W.zret hx hb hr rfl (fun t ht hW => ⟨_, rfl, ⟨hv, by rw [← hv]; exact rfl⟩, ht⟩) (fun q hq => by cases hq) dX1_agrees_91
      · have hF := it_n hc1 hF
        refine lv_aload hx hb dX1_agrees_19 (lv_at hl 4 rfl) ?_
        refine va_get (D := D) (ci := 3) (v := .ref (ad 17)) (C := RX3) (T := TX3) (N := 10) hx hb hts hiX3 hown hK hP 3 rfl rfl 3 (by decide) hf47 (fun _ h9 => h9) rfl dX1_agrees_21 ?_
        refine lv_iload hx hb dX1_agrees_24 (lv_at hl 5 rfl) ?_
        refine kS_i (va_runSN (As := [.ref (ad 17), .int x5_9]) (rest := []) ⟨hx, hb, hml, hown, hts⟩ (c_X11_at l hz D (tX ck) (wX ad ck f0 g0 a0) 17 4 rfl rfl (by decide) x5_9) ⟨va_cnB 2 hts gX1_agrees_X11_at_n50 rfl rfl rfl (hE.2.1 _ knX1_50) (hts (.initialized RX11) (by decide +kernel)) pX11_at ⟨Nat.le_of_ble_eq_true rfl, Nat.le_of_ble_eq_true rfl⟩, hts (.static yX11_at) (by decide +kernel), trivial⟩ (kR.preS hP hE) rfl rfl hl.1 rfl (lv_room (Nat.le_of_ble_eq_true rfl)) dX1_agrees_26 ⟨Nat.le_refl _, Nat.le_refl _⟩) ?_
        refine lv_aload_n hx hb dX1_agrees_29 rfl (lv_at hl 0 rfl) ?_
        refine va_get (D := D) (ci := 1) (v := .int (f0 16)) (C := RX1) (T := TX1) (N := 4) hx hb hts hiX1 hown hK hP 6 rfl rfl 2 (by decide) hf18 (fun _ h9 => h9) rfl dX1_agrees_30 ?_
        refine lv_icmp_ne (tgt := 84) hx hb dX1_agrees_33 (by decide) (fun hc2 => ?_) (fun hc2 => ?_)
        · have hF := it_n hc2 hF
          exact hN_84 x5_9 ls (lv_sub hl [0, 1, 2, 3, 4, 5] rfl) _ hF hp
        · have hF := it_p hc2 hF
          refine lv_aload_n hx hb dX1_agrees_36 rfl (lv_at hl 1 rfl) ?_
          refine lv_aload_n hx hb dX1_agrees_37 rfl (lv_at hl 0 rfl) ?_
          refine va_get (D := D) (ci := 1) (v := .int (f0 16)) (C := RX1) (T := TX1) (N := 4) hx hb hts hiX1 hown hK hP 6 rfl rfl 2 (by decide) hf18 (fun _ h9 => h9) rfl dX1_agrees_38 ?_
          refine lv_aload hx hb dX1_agrees_41 (lv_at hl 4 rfl) ?_
          refine va_get (D := D) (ci := 3) (v := .ref (ad 18)) (C := RX3) (T := TX3) (N := 10) hx hb hts hiX3 hown hK hP 3 rfl rfl 4 (by decide) hf54 (fun _ h9 => h9) rfl dX1_agrees_43 ?_
          refine lv_iload hx hb dX1_agrees_46 (lv_at hl 5 rfl) ?_
          refine kS_i (va_runSN (As := [.ref (ad 18), .int x5_9]) (rest := [.int (f0 16), .ref (ad 2)]) ⟨hx, hb, hml, hown, hts⟩ (c_X11_at l hz D (tX ck) (wX ad ck f0 g0 a0) 18 5 rfl rfl (by decide) x5_9) ⟨va_cnB 2 hts gX1_agrees_X11_at_n50 rfl rfl rfl (hE.2.1 _ knX1_50) (hts (.initialized RX11) (by decide +kernel)) pX11_at ⟨Nat.le_of_ble_eq_true rfl, Nat.le_of_ble_eq_true rfl⟩, hts (.static yX11_at) (by decide +kernel), trivial⟩ (kR.preS hP hE) rfl rfl hl.1 rfl (lv_room (Nat.le_of_ble_eq_true rfl)) dX1_agrees_48 ⟨Nat.le_refl _, Nat.le_refl _⟩) ?_
          refine lv_iload_n hx hb dX1_agrees_51 rfl (lv_at hl 2 rfl) ?_
          refine lv_iload_n hx hb dX1_agrees_52 rfl (lv_at hl 3 rfl) ?_
          refine kS_b (va_runV (As := [.int (f0 16), .int (F_at 6 (a0 18) x5_9), .int x2_9, .int x3_9]) (rest := []) ⟨hx, hb, hml, hown, hts⟩ (c_X9_couldWrite l hz D ad ck f0 g0 a0 (f0 16) (F_at 6 (a0 18) x5_9) x2_9 x3_9) (cwV 4 hts gX1_agrees_X9_couldWrite rfl rfl rfl ⟨rfl, pX9_couldWrite⟩ ⟨Nat.le_of_ble_eq_true rfl, Nat.le_of_ble_eq_true rfl⟩) (kR.preV (va_recv hK hP (ci := 9) (q0 := 2) rfl rfl) hP hE) rfl rfl hl.1 rfl (lv_room (Nat.le_of_ble_eq_true rfl)) dX1_agrees_53 ⟨Nat.le_refl _, Nat.le_refl _⟩) (fun hz3 => ?_)
          refine lv_istore (lv' := [(6, .int (F_X9_couldWrite f0 g0 a0 (f0 16) (F_at 6 (a0 18) x5_9) x2_9 x3_9)), (0, .ref (ad 6)), (1, .ref (ad 2)), (2, .int x2_9), (3, .int x3_9), (4, .ref (ad 3)), (5, .int x5_9)]) hx hb dX1_agrees_56 hl (by decide) rfl (fun ls hl => ?_)
          refine lv_iload hx hb dX1_agrees_58 (lv_at hl 0 rfl) ?_
          refine lv_aload hx hb dX1_agrees_60 (lv_at hl 5 rfl) ?_
          refine va_get (D := D) (ci := 3) (v := .ref (ad 19)) (C := RX3) (T := TX3) (N := 10) hx hb hts hiX3 hown hK hP 3 rfl rfl 5 (by decide) hf61 (fun _ h9 => h9) rfl dX1_agrees_62 ?_
          refine lv_iload hx hb dX1_agrees_65 (lv_at hl 6 rfl) ?_
          refine kS_i (va_runSN (As := [.ref (ad 19), .int x5_9]) (rest := [.int (F_X9_couldWrite f0 g0 a0 (f0 16) (F_at 6 (a0 18) x5_9) x2_9 x3_9)]) ⟨hx, hb, hml, hown, hts⟩ (c_X11_at l hz D (tX ck) (wX ad ck f0 g0 a0) 19 6 rfl rfl (by decide) x5_9) ⟨va_cnB 2 hts gX1_agrees_X11_at_n50 rfl rfl rfl (hE.2.1 _ knX1_50) (hts (.initialized RX11) (by decide +kernel)) pX11_at ⟨Nat.le_of_ble_eq_true rfl, Nat.le_of_ble_eq_true rfl⟩, hts (.static yX11_at) (by decide +kernel), trivial⟩ (kR.preS hP hE) rfl rfl hl.1 rfl (lv_room (Nat.le_of_ble_eq_true rfl)) dX1_agrees_67 ⟨Nat.le_refl _, Nat.le_refl _⟩) ?_
          refine lv_iconst (v := 1) hx hb dX1_agrees_70 (by decide) ?_
          refine lv_icmp_ne (tgt := 78) hx hb dX1_agrees_71 (by decide) (fun hc4 => ?_) (fun hc4 => ?_)
          · have hF := it_n hc4 hF
            refine lv_iconst (v := 0) hx hb dX1_agrees_78 (by decide) ?_
            exact hN_79 x5_9 0 (F_X9_couldWrite f0 g0 a0 (f0 16) (F_at 6 (a0 18) x5_9) x2_9 x3_9) ls (lv_sub hl [1, 2, 3, 4, 5, 6] rfl) _ hF hp
          · have hF := it_p hc4 hF
            refine lv_iconst (v := 1) hx hb dX1_agrees_74 (by decide) ?_
            refine lv_goto (tgt := 79) hx hb dX1_agrees_75 (by decide) ?_
            exact hN_79 x5_9 1 (F_X9_couldWrite f0 g0 a0 (f0 16) (F_at 6 (a0 18) x5_9) x2_9 x3_9) ls (lv_sub hl [1, 2, 3, 4, 5, 6] rfl) _ hF hp
  have hl := lv_entry ([.ref (ad 6), .ref (ad 2), .int p2, .int p3]) (n := 7) (Nat.le_of_ble_eq_true rfl)
  rw [lg_entry_eq]
  generalize (lg_sl ([.ref (ad 6), .ref (ad 2), .int p2, .int p3]) ++ List.replicate (7 - (lg_sl ([.ref (ad 6), .ref (ad 2), .int p2, .int p3])).length) Slot.unset).toArray = ls at hl ⊢
  have hl : lv_has ls 7 [(0, .ref (ad 6)), (1, .ref (ad 2)), (2, .int p2), (3, .int p3)] := hl
  obtain ⟨r, hF, hp⟩ : ∃ r, F_X1_agrees f0 g0 a0 p2 p3 = some r ∧ r = out := ⟨out, hF, rfl⟩
  unfold F_X1_agrees at hF
  refine lv_aload_n hx hb dX1_agrees_0 rfl (lv_at hl 1 rfl) ?_
  refine va_get (D := D) (ci := 9) (v := .ref (ad 3)) (C := RX9) (T := TX9) (N := 4) hx hb hts hiX9 hown hK hP 2 rfl rfl 0 (by decide) hf38 (fun _ h9 => h9) rfl dX1_agrees_1 ?_
  refine lv_astore (lv' := [(4, .ref (ad 3)), (0, .ref (ad 6)), (1, .ref (ad 2)), (2, .int p2), (3, .int p3)]) hx hb dX1_agrees_4 hl (by decide) rfl (fun ls hl => ?_)
  refine lv_iconst (v := 0) hx hb dX1_agrees_6 (by decide) ?_
  refine lv_istore (lv' := [(5, .int 0), (4, .ref (ad 3)), (0, .ref (ad 6)), (1, .ref (ad 2)), (2, .int p2), (3, .int p3)]) hx hb dX1_agrees_7 hl (by decide) rfl (fun ls hl => ?_)
  exact hN_9 p2 p3 kFu 0 ls (lv_sub hl [2, 3, 4, 5, 1, 0] rfl) _ hF hp

def N_X1_gather_78 (f78 : Nat → Int32) (g78 : Nat → Int64) (a78 : Nat → Nat → Int32) (x3_23 : Int32) (x4_78 : Int32) : Option ((Int32 × ST) ⊕ ((Int32 × ST) ⊕ ST)) := some (.inl ((x4_78 + 1), f78, g78, a78))
def B_X1_gather_23 (f23 : Nat → Int32) (g23 : Nat → Int64) (a23 : Nat → Nat → Int32) (x3_23 : Int32) (x4_23 : Int32) : Option ((Int32 × ST) ⊕ ((Int32 × ST) ⊕ ST)) := if (f23 5) ≤ x4_23 then Option.map Sum.inr (some (.inl ((x3_23 + 1), f23, g23, a23))) else (F_X1_agrees f23 g23 a23 x3_23 x4_23).bind fun r3 => if r3 = 0 then N_X1_gather_78 f23 g23 a23 x3_23 x4_23 else N_X1_gather_78 (upd f23 17 ((f23 17) + (1 : Int32))) g23 (us (us a23 28 (F_put 25 (a23 28) (f23 17) x3_23)) 29 (F_put 25 ((us a23 28 (F_put 25 (a23 28) (f23 17) x3_23)) 29) (f23 17) x4_23)) x3_23 x4_23
def N_X1_gather_23 (f23 : Nat → Int32) (g23 : Nat → Int64) (a23 : Nat → Nat → Int32) (x3_23 : Int32) (x4_23 : Int32) : Option ((Int32 × ST) ⊕ ST) := lpN (fun q23 : (Int32 × ST) => B_X1_gather_23 q23.2.1 q23.2.2.1 q23.2.2.2 x3_23 q23.1) kFu (x4_23, f23, g23, a23)
def B_X1_gather_12 (f12 : Nat → Int32) (g12 : Nat → Int64) (a12 : Nat → Nat → Int32) (x3_12 : Int32) : Option ((Int32 × ST) ⊕ ST) := if (f12 5) ≤ x3_12 then Option.map Sum.inr (some (f12, g12, a12)) else N_X1_gather_23 f12 g12 a12 x3_12 0
def N_X1_gather_12 (f12 : Nat → Int32) (g12 : Nat → Int64) (a12 : Nat → Nat → Int32) (x3_12 : Int32) : Option ST := lpN (fun q12 : (Int32 × ST) => B_X1_gather_12 q12.2.1 q12.2.2.1 q12.2.2.2 q12.1) kFu (x3_12, f12, g12, a12)
def F_X1_gather (f0 : Nat → Int32) (g0 : Nat → Int64) (a0 : Nat → Nat → Int32) (p2 : Int32) : Option ST := N_X1_gather_12 (upd (upd f0 16 p2) 17 0) g0 a0 0
set_option maxHeartbeats 4000000 in
set_option maxRecDepth 100000 in
theorem c_X1_gather (l : Launch) (hz : Nat) (D : va_G) (ad : Nat → Nat) (ck : Nat → ClassId) (f0 : Nat → Int32) (g0 : Nat → Int64) (a0 : Nat → Nat → Int32) (p2 : Int32) (out : ST) (hF : F_X1_gather f0 g0 a0 p2 = some out) : Met l yX1_gather wsX1_gather ({ frames := 4, cells := 0, slots := 0, locals := 98 }) (kW hz D vwCl (tX ck) (wX ad ck f0 g0 a0) [.ref (ad 6), .ref (ad 2), .int p2]) (kQ D vwCl none (wX ad ck f0 g0 a0) (wX ad ck out.1 out.2.1 out.2.2)) 0 0 (kAd (wX ad ck f0 g0 a0)) := by
  refine Met.ofW (cc := cX1_gather) (maxL := 5) (ret := none) (by decide) rfl ?_
  intro p e s m args below meth c s₁ B hml hv
  obtain ⟨rfl, hP, hE, hD0⟩ := hv
  have hx := B.exec
  have hb := B.bytes
  have hr := B.returns
  have hts := atoms_spec (ws := wsX1_gather) B.pre
  have hown : s.vm.findClass RX1 = some m.cls := findClass_of_methodNamed B.named
  have hlocks := B.notSynchronized
  have hK := hE.1
  have hnA := kAd_up hD0
  have hD := kD_self hD0
  have hS : va_S (kAd (wX ad ck f0 g0 a0)) s.heap s.heap [] := va_S.rf
  have hiX1 : ∀ w ∈ u_ws RX1 TX1 4, w ∈ wsX1_gather := by decide +kernel
  have hiX9 : ∀ w ∈ u_ws RX9 TX9 4, w ∈ wsX1_gather := by decide +kernel
  have hf9 := hts (.fieldLink RX1 9 "SpeltByFriends$Guesses" "firsts" "[I") (by decide +kernel)
  have hf15 := hts (.fieldLink RX1 15 "SpeltByFriends$Guesses" "lasts" "[I") (by decide +kernel)
  have hf18 := hts (.fieldLink RX1 18 "SpeltByFriends$Guesses" "person" "I") (by decide +kernel)
  have hf22 := hts (.fieldLink RX1 22 "SpeltByFriends$Guesses" "many" "I") (by decide +kernel)
  have hf25 := hts (.fieldLink RX1 25 "SpeltByFriends$Town" "size" "I") (by decide +kernel)
  have hN_12 : ∀ (n12 : Nat) (f12 : Nat → Int32) (g12 : Nat → Int64) (a12 : Nat → Nat → Int32) (H : Heap) (locs : List Loc) (x3_12 : Int32) (ls : Array Slot), va_P D vwCl (wX ad ck f12 g12 a12) H → va_D (kAd (wX ad ck f0 g0 a0)) (wX ad ck f12 g12 a12) → va_S (kAd (wX ad ck f0 g0 a0)) s.heap H locs → lv_has ls 5 [(0, .ref (ad 6)), (1, .ref (ad 2)), (3, .int x3_12)] → ∀ r : ST, lpN (fun q12 : (Int32 × ST) => B_X1_gather_12 q12.2.1 q12.2.2.1 q12.2.2.2 q12.1) n12 (x3_12, f12, g12, a12) = some r → (fun r => r = out) r → W p l e (headSpec wsX1_gather ({ frames := 4, cells := 0, slots := 0, locals := 98 })).room s m [.ref (ad 6), .ref (ad 2), .int p2].toArray below meth c H locs 0 0 (MQ below (kQ D vwCl none (wX ad ck f0 g0 a0) (wX ad ck out.1 out.2.1 out.2.2)) [.ref (ad 6), .ref (ad 2), .int p2].toArray s 0 0 (kAd (wX ad ck f0 g0 a0))) (F0 m 12 ls []) := by
    intro n12
    induction n12 with
    | zero => intro f12 g12 a12 H locs x3_12 ls hP hD hS hl r hF hp; exact (lp_z hF).elim
    | succ n12 ih12 =>
      intro f12 g12 a12 H locs x3_12 ls hP hD hS hl r hF hp
      obtain ⟨rs, hF, hp⟩ := lpN_K (P := (fun r => r = out)) hF hp
      have hN_23 : ∀ (x3_23 : Int32) (n23 : Nat) (f23 : Nat → Int32) (g23 : Nat → Int64) (a23 : Nat → Nat → Int32) (H : Heap) (locs : List Loc) (x4_23 : Int32) (ls : Array Slot), va_P D vwCl (wX ad ck f23 g23 a23) H → va_D (kAd (wX ad ck f0 g0 a0)) (wX ad ck f23 g23 a23) → va_S (kAd (wX ad ck f0 g0 a0)) s.heap H locs → lv_has ls 5 [(0, .ref (ad 6)), (1, .ref (ad 2)), (3, .int x3_23), (4, .int x4_23)] → ∀ r : ((Int32 × ST) ⊕ ST), lpN (fun q23 : (Int32 × ST) => B_X1_gather_23 q23.2.1 q23.2.2.1 q23.2.2.2 x3_23 q23.1) n23 (x4_23, f23, g23, a23) = some r → (lpK (fun q12 : (Int32 × ST) => B_X1_gather_12 q12.2.1 q12.2.2.1 q12.2.2.2 q12.1) n12 (fun r => r = out)) r → W p l e (headSpec wsX1_gather ({ frames := 4, cells := 0, slots := 0, locals := 98 })).room s m [.ref (ad 6), .ref (ad 2), .int p2].toArray below meth c H locs 0 0 (MQ below (kQ D vwCl none (wX ad ck f0 g0 a0) (wX ad ck out.1 out.2.1 out.2.2)) [.ref (ad 6), .ref (ad 2), .int p2].toArray s 0 0 (kAd (wX ad ck f0 g0 a0))) (F0 m 23 ls []) := by
        intro x3_23 n23
        induction n23 with
        | zero => intro f23 g23 a23 H locs x4_23 ls hP hD hS hl r hF hp; exact (lp_z hF).elim
        | succ n23 ih23 =>
          intro f23 g23 a23 H locs x4_23 ls hP hD hS hl r hF hp
          obtain ⟨rs, hF, hp⟩ := lpN_K (P := (lpK (fun q12 : (Int32 × ST) => B_X1_gather_12 q12.2.1 q12.2.2.1 q12.2.2.2 q12.1) n12 (fun r => r = out))) hF hp
          have hN_78 : ∀ (f78 : Nat → Int32) (g78 : Nat → Int64) (a78 : Nat → Nat → Int32) (H : Heap) (locs : List Loc) (x4_78 : Int32) (ls : Array Slot), va_P D vwCl (wX ad ck f78 g78 a78) H → va_D (kAd (wX ad ck f0 g0 a0)) (wX ad ck f78 g78 a78) → va_S (kAd (wX ad ck f0 g0 a0)) s.heap H locs → lv_has ls 5 [(0, .ref (ad 6)), (1, .ref (ad 2)), (3, .int x3_23), (4, .int x4_78)] → ∀ r : ((Int32 × ST) ⊕ ((Int32 × ST) ⊕ ST)), N_X1_gather_78 f78 g78 a78 x3_23 x4_78 = some r → (lpK (fun q23 : (Int32 × ST) => B_X1_gather_23 q23.2.1 q23.2.2.1 q23.2.2.2 x3_23 q23.1) n23 (lpK (fun q12 : (Int32 × ST) => B_X1_gather_12 q12.2.1 q12.2.2.1 q12.2.2.2 q12.1) n12 (fun r => r = out))) r → W p l e (headSpec wsX1_gather ({ frames := 4, cells := 0, slots := 0, locals := 98 })).room s m [.ref (ad 6), .ref (ad 2), .int p2].toArray below meth c H locs 0 0 (MQ below (kQ D vwCl none (wX ad ck f0 g0 a0) (wX ad ck out.1 out.2.1 out.2.2)) [.ref (ad 6), .ref (ad 2), .int p2].toArray s 0 0 (kAd (wX ad ck f0 g0 a0))) (F0 m 78 ls []) := by
            intro f78 g78 a78 H locs x4_78 ls hP hD hS hl r hF hp
            unfold N_X1_gather_78 at hF
            refine lv_iinc (v := (x4_78 + 1)) (lv' := [(4, .int (x4_78 + 1)), (0, .ref (ad 6)), (1, .ref (ad 2)), (3, .int x3_23)]) hx hb dX1_gather_78 hl (k := 3) rfl rfl (by decide) rfl (fun ls hl => ?_)
            refine lv_goto (tgt := 23) hx hb dX1_gather_81 (by decide) ?_
            have hF := Option.some.inj hF
            subst hF
            obtain ⟨r, hF, hp⟩ := hp
            exact ih23 f78 g78 a78 _ _ (x4_78 + 1) ls hP hD hS (lv_sub hl [1, 2, 3, 0] rfl) r hF hp
          unfold B_X1_gather_23 at hF
          refine lv_iload hx hb dX1_gather_23 (lv_at hl 3 rfl) ?_
          refine lv_aload_n hx hb dX1_gather_25 rfl (lv_at hl 1 rfl) ?_
          refine va_get (D := D) (ci := 9) (v := .int (f23 5)) (C := RX9) (T := TX9) (N := 4) hx hb hts hiX9 hown hK hP 2 rfl rfl 3 (by decide) hf25 (fun _ h9 => h9) rfl dX1_gather_26 ?_
          refine lv_icmp_ge (tgt := 84) hx hb dX1_gather_29 (by decide) (fun hc2 => ?_) (fun hc2 => ?_)
          · have hF := it_p hc2 hF
            obtain ⟨r, hF1, hr0⟩ := mp_s hF
            clear hF
            subst hr0
            have hF := hF1
            clear hF1
            have hp : (lpK (fun q12 : (Int32 × ST) => B_X1_gather_12 q12.2.1 q12.2.2.1 q12.2.2.2 q12.1) n12 (fun r => r = out)) r := hp
            refine lv_iinc (v := (x3_23 + 1)) (lv' := [(3, .int (x3_23 + 1)), (0, .ref (ad 6)), (1, .ref (ad 2)), (4, .int x4_23)]) hx hb dX1_gather_84 hl (k := 2) rfl rfl (by decide) rfl (fun ls hl => ?_)
            refine lv_goto (tgt := 12) hx hb dX1_gather_87 (by decide) ?_
            have hF := Option.some.inj hF
            subst hF
            obtain ⟨r, hF, hp⟩ := hp
            exact ih12 f23 g23 a23 _ _ (x3_23 + 1) ls hP hD hS (lv_sub hl [1, 2, 0] rfl) r hF hp
          · have hF := it_n hc2 hF
            refine lv_aload_n hx hb dX1_gather_32 rfl (lv_at hl 0 rfl) ?_
            refine lv_aload_n hx hb dX1_gather_33 rfl (lv_at hl 1 rfl) ?_
            refine lv_iload_n hx hb dX1_gather_34 rfl (lv_at hl 2 rfl) ?_
            refine lv_iload hx hb dX1_gather_35 (lv_at hl 3 rfl) ?_
            obtain ⟨r3, he3, hF⟩ := bd_s hF
            refine kS_b (va_runV (As := [.ref (ad 2), .int x3_23, .int x4_23]) (rest := []) ⟨hx, hb, hml, hown, hts⟩ (c_X1_agrees l hz D ad ck f23 g23 a23 x3_23 x4_23 r3 he3) (cwV 3 hts gX1_gather_X1_agrees rfl rfl rfl ⟨rfl, pX1_agrees⟩ ⟨Nat.le_of_ble_eq_true rfl, Nat.le_of_ble_eq_true rfl⟩) (kR.preV (va_recv hK hP (ci := 1) (q0 := 6) rfl rfl) hP (hE.kept hS hnA)) rfl rfl hl.1 rfl (lv_room (Nat.le_of_ble_eq_true rfl)) dX1_gather_37 ⟨Nat.le_refl _, Nat.le_refl _⟩) (fun hz4 => ?_)
            refine lv_if_eq (tgt := 78) hx hb dX1_gather_40 (by decide) (fun hc5 => ?_) (fun hc5 => ?_)
            · have hF := it_p hc5 hF
              exact hN_78 f23 g23 a23 _ _ x4_23 ls hP hD hS (lv_sub hl [0, 1, 2, 3] rfl) _ hF hp
            · have hF := it_n hc5 hF
              refine lv_aload_n hx hb dX1_gather_43 rfl (lv_at hl 0 rfl) ?_
              refine va_get (D := D) (ci := 1) (v := .ref (ad 28)) (C := RX1) (T := TX1) (N := 4) hx hb hts hiX1 hown hK hP 6 rfl rfl 0 (by decide) hf9 (fun _ h9 => h9) rfl dX1_gather_44 ?_
              refine lv_aload_n hx hb dX1_gather_47 rfl (lv_at hl 0 rfl) ?_
              refine va_get (D := D) (ci := 1) (v := .int (f23 17)) (C := RX1) (T := TX1) (N := 4) hx hb hts hiX1 hown hK hP 6 rfl rfl 3 (by decide) hf22 (fun _ h9 => h9) rfl dX1_gather_48 ?_
              refine lv_iload_n hx hb dX1_gather_51 rfl (lv_at hl 2 rfl) ?_
              refine kS_w (va_runSN (As := [.ref (ad 28), .int (f23 17), .int x3_23]) (rest := []) ⟨hx, hb, hml, hown, hts⟩ (c_X11_put l hz D (tX ck) (wX ad ck f23 g23 a23) 28 15 rfl rfl (by decide) (f23 17) x3_23) ⟨va_cnB 3 hts gX1_gather_X11_put_n34 rfl rfl rfl (hE.2.1 _ knX1_34) (hts (.initialized RX11) (by decide +kernel)) pX11_put ⟨Nat.le_of_ble_eq_true rfl, Nat.le_of_ble_eq_true rfl⟩, hts (.static yX11_put) (by decide +kernel), trivial⟩ (kW.preS hP (hE.kept hS hnA) hD hnA) rfl rfl hl.1 rfl (lv_room (Nat.le_of_ble_eq_true rfl)) dX1_gather_52 ⟨Nat.le_refl _, Nat.le_refl _⟩) hD hS (kSet_fst rfl) (fun H locs hP hD hS => ?_)
              have hP := kPe (es_wX28 ad ck f23 g23 a23 (F_put 25 (a23 28) (f23 17) x3_23)) hP
              have hD := kDe (es_wX28 ad ck f23 g23 a23 (F_put 25 (a23 28) (f23 17) x3_23)) hD
              refine lv_aload_n hx hb dX1_gather_55 rfl (lv_at hl 0 rfl) ?_
              refine va_get (D := D) (ci := 1) (v := .ref (ad 29)) (C := RX1) (T := TX1) (N := 4) hx hb hts hiX1 hown hK hP 6 rfl rfl 1 (by decide) hf15 (fun _ h9 => h9) rfl dX1_gather_56 ?_
              refine lv_aload_n hx hb dX1_gather_59 rfl (lv_at hl 0 rfl) ?_
              refine va_get (D := D) (ci := 1) (v := .int (f23 17)) (C := RX1) (T := TX1) (N := 4) hx hb hts hiX1 hown hK hP 6 rfl rfl 3 (by decide) hf22 (fun _ h9 => h9) rfl dX1_gather_60 ?_
              refine lv_iload hx hb dX1_gather_63 (lv_at hl 3 rfl) ?_
              refine kS_w (va_runSN (As := [.ref (ad 29), .int (f23 17), .int x4_23]) (rest := []) ⟨hx, hb, hml, hown, hts⟩ (c_X11_put l hz D (tX ck) (wX ad ck f23 g23 (us a23 28 (F_put 25 (a23 28) (f23 17) x3_23))) 29 16 rfl rfl (by decide) (f23 17) x4_23) ⟨va_cnB 3 hts gX1_gather_X11_put_n34 rfl rfl rfl (hE.2.1 _ knX1_34) (hts (.initialized RX11) (by decide +kernel)) pX11_put ⟨Nat.le_of_ble_eq_true rfl, Nat.le_of_ble_eq_true rfl⟩, hts (.static yX11_put) (by decide +kernel), trivial⟩ (kW.preS hP (hE.kept hS hnA) hD hnA) rfl rfl hl.1 rfl (lv_room (Nat.le_of_ble_eq_true rfl)) dX1_gather_65 ⟨Nat.le_refl _, Nat.le_refl _⟩) hD hS (kSet_fst rfl) (fun H locs hP hD hS => ?_)
              have hP := kPe (es_wX29 ad ck f23 g23 (us a23 28 (F_put 25 (a23 28) (f23 17) x3_23)) (F_put 25 ((us a23 28 (F_put 25 (a23 28) (f23 17) x3_23)) 29) (f23 17) x4_23)) hP
              have hD := kDe (es_wX29 ad ck f23 g23 (us a23 28 (F_put 25 (a23 28) (f23 17) x3_23)) (F_put 25 ((us a23 28 (F_put 25 (a23 28) (f23 17) x3_23)) 29) (f23 17) x4_23)) hD
              refine lv_aload_n hx hb dX1_gather_68 rfl (lv_at hl 0 rfl) ?_
              refine lv_dup hx hb dX1_gather_69 rfl ?_
              refine va_get (D := D) (ci := 1) (v := .int (f23 17)) (C := RX1) (T := TX1) (N := 4) hx hb hts hiX1 hown hK hP 6 rfl rfl 3 (by decide) hf22 (fun _ h9 => h9) rfl dX1_gather_70 ?_
              refine lv_iconst (v := 1) hx hb dX1_gather_73 (by decide) ?_
              refine lv_iadd hx hb dX1_gather_74 ?_
              refine va_put (D := D) (ci := 1) (v := .int ((f23 17) + (1 : Int32))) (ty := .int) (C := RX1) (T := TX1) (N := 4) hx hb hts hiX1 tyX1 tyX1_ok nmX1 hown hK hP hD hS 6 rfl rfl 3 (by decide) hf22 (fun _ h9 => h9) rfl (tyX1_ok 3 (by decide)) rfl rfl (Nat.le_of_ble_eq_true rfl) dX1_gather_75 (fun H locs hP hD hS => ?_)
              have hP := kPe (ef_wX6_3 ad ck f23 g23 (us (us a23 28 (F_put 25 (a23 28) (f23 17) x3_23)) 29 (F_put 25 ((us a23 28 (F_put 25 (a23 28) (f23 17) x3_23)) 29) (f23 17) x4_23)) ((f23 17) + (1 : Int32))) hP
              have hD := kDe (ef_wX6_3 ad ck f23 g23 (us (us a23 28 (F_put 25 (a23 28) (f23 17) x3_23)) 29 (F_put 25 ((us a23 28 (F_put 25 (a23 28) (f23 17) x3_23)) 29) (f23 17) x4_23)) ((f23 17) + (1 : Int32))) hD
              exact hN_78 (upd f23 17 ((f23 17) + (1 : Int32))) g23 (us (us a23 28 (F_put 25 (a23 28) (f23 17) x3_23)) 29 (F_put 25 ((us a23 28 (F_put 25 (a23 28) (f23 17) x3_23)) 29) (f23 17) x4_23)) _ _ x4_23 ls hP hD hS (lv_sub hl [0, 1, 2, 3] rfl) _ hF hp
      unfold B_X1_gather_12 at hF
      refine lv_iload_n hx hb dX1_gather_12 rfl (lv_at hl 2 rfl) ?_
      refine lv_aload_n hx hb dX1_gather_13 rfl (lv_at hl 1 rfl) ?_
      refine va_get (D := D) (ci := 9) (v := .int (f12 5)) (C := RX9) (T := TX9) (N := 4) hx hb hts hiX9 hown hK hP 2 rfl rfl 3 (by decide) hf25 (fun _ h9 => h9) rfl dX1_gather_14 ?_
      refine lv_icmp_ge (tgt := 90) hx hb dX1_gather_17 (by decide) (fun hc1 => ?_) (fun hc1 => ?_)
      · have hF := it_p hc1 hF
        obtain ⟨r, hF1, hr0⟩ := mp_s hF
        clear hF
        subst hr0
        have hF := hF1
        clear hF1
        have hp : (fun r => r = out) r := hp
        have hF := (Option.some.inj hF).trans hp
        subst hF
        exact W.vret hx hb hr (fun t ht hW => ⟨rfl, by rw [ht]; exact hP, hS.F ht⟩) hS.2.2 dX1_gather_90
      · have hF := it_n hc1 hF
        refine lv_iconst (v := 0) hx hb dX1_gather_20 (by decide) ?_
        refine lv_istore (lv' := [(4, .int 0), (0, .ref (ad 6)), (1, .ref (ad 2)), (3, .int x3_12)]) hx hb dX1_gather_21 hl (by decide) rfl (fun ls hl => ?_)
        exact hN_23 x3_12 kFu f12 g12 a12 _ _ 0 ls hP hD hS (lv_sub hl [1, 2, 3, 0] rfl) _ hF hp
  have hl := lv_entry ([.ref (ad 6), .ref (ad 2), .int p2]) (n := 5) (Nat.le_of_ble_eq_true rfl)
  rw [lg_entry_eq]
  generalize (lg_sl ([.ref (ad 6), .ref (ad 2), .int p2]) ++ List.replicate (5 - (lg_sl ([.ref (ad 6), .ref (ad 2), .int p2])).length) Slot.unset).toArray = ls at hl ⊢
  have hl : lv_has ls 5 [(0, .ref (ad 6)), (1, .ref (ad 2)), (2, .int p2)] := hl
  obtain ⟨r, hF, hp⟩ : ∃ r, F_X1_gather f0 g0 a0 p2 = some r ∧ r = out := ⟨out, hF, rfl⟩
  unfold F_X1_gather at hF
  refine lv_aload_n hx hb dX1_gather_0 rfl (lv_at hl 0 rfl) ?_
  refine lv_iload_n hx hb dX1_gather_1 rfl (lv_at hl 2 rfl) ?_
  refine va_put (D := D) (ci := 1) (v := .int p2) (ty := .int) (C := RX1) (T := TX1) (N := 4) hx hb hts hiX1 tyX1 tyX1_ok nmX1 hown hK hP hD hS 6 rfl rfl 2 (by decide) hf18 (fun _ h9 => h9) rfl (tyX1_ok 2 (by decide)) rfl rfl (Nat.le_of_ble_eq_true rfl) dX1_gather_2 (fun H locs hP hD hS => ?_)
  have hP := kPe (ef_wX6_2 ad ck f0 g0 a0 p2) hP
  have hD := kDe (ef_wX6_2 ad ck f0 g0 a0 p2) hD
  refine lv_aload_n hx hb dX1_gather_5 rfl (lv_at hl 0 rfl) ?_
  refine lv_iconst (v := 0) hx hb dX1_gather_6 (by decide) ?_
  refine va_put (D := D) (ci := 1) (v := .int 0) (ty := .int) (C := RX1) (T := TX1) (N := 4) hx hb hts hiX1 tyX1 tyX1_ok nmX1 hown hK hP hD hS 6 rfl rfl 3 (by decide) hf22 (fun _ h9 => h9) rfl (tyX1_ok 3 (by decide)) rfl rfl (Nat.le_of_ble_eq_true rfl) dX1_gather_7 (fun H locs hP hD hS => ?_)
  have hP := kPe (ef_wX6_3 ad ck (upd f0 16 p2) g0 a0 0) hP
  have hD := kDe (ef_wX6_3 ad ck (upd f0 16 p2) g0 a0 0) hD
  refine lv_iconst (v := 0) hx hb dX1_gather_10 (by decide) ?_
  refine lv_istore_n (lv' := [(3, .int 0), (0, .ref (ad 6)), (1, .ref (ad 2)), (2, .int p2)]) hx hb dX1_gather_11 rfl hl (by decide) rfl (fun ls hl => ?_)
  exact hN_12 kFu (upd (upd f0 16 p2) 17 0) g0 a0 _ _ 0 ls hP hD hS (lv_sub hl [1, 2, 0] rfl) _ hF hp

def F_X1_least (f0 : Nat → Int32) (g0 : Nat → Int64) (a0 : Nat → Nat → Int32) : Int32 := if (f0 17) = 0 then (-1) else (((10 : Int32) * (F_at 25 (a0 28) 0)) + (F_at 25 (a0 29) 0))
set_option maxHeartbeats 4000000 in
set_option maxRecDepth 100000 in
theorem c_X1_least (l : Launch) (hz : Nat) (D : va_G) (ad : Nat → Nat) (ck : Nat → ClassId) (f0 : Nat → Int32) (g0 : Nat → Int64) (a0 : Nat → Nat → Int32) : Met l yX1_least wsX1_least ({ frames := 1, cells := 0, slots := 0, locals := 21 }) (kR hz D vwCl (tX ck) (wX ad ck f0 g0 a0) [.ref (ad 6)]) (kZi (F_X1_least f0 g0 a0)) 0 0 (fun _ => False) := by
  generalize hF : F_X1_least f0 g0 a0 = out
  refine Met.ofW (cc := cX1_least) (maxL := 1) (ret := (some .int)) (by decide) rfl ?_
  intro p e s m args below meth c s₁ B hml hv
  obtain ⟨rfl, hP, hE⟩ := hv
  have hx := B.exec
  have hb := B.bytes
  have hr := B.returns
  have hts := atoms_spec (ws := wsX1_least) B.pre
  have hown : s.vm.findClass RX1 = some m.cls := findClass_of_methodNamed B.named
  have hlocks := B.notSynchronized
  have hK := hE.1
  have hiX1 : ∀ w ∈ u_ws RX1 TX1 4, w ∈ wsX1_least := by decide +kernel
  have hf9 := hts (.fieldLink RX1 9 "SpeltByFriends$Guesses" "firsts" "[I") (by decide +kernel)
  have hf15 := hts (.fieldLink RX1 15 "SpeltByFriends$Guesses" "lasts" "[I") (by decide +kernel)
  have hf22 := hts (.fieldLink RX1 22 "SpeltByFriends$Guesses" "many" "I") (by decide +kernel)
  have hl := lv_entry ([.ref (ad 6)]) (n := 1) (Nat.le_of_ble_eq_true rfl)
  rw [lg_entry_eq]
  generalize (lg_sl ([.ref (ad 6)]) ++ List.replicate (1 - (lg_sl ([.ref (ad 6)])).length) Slot.unset).toArray = ls at hl ⊢
  have hl : lv_has ls 1 [(0, .ref (ad 6))] := hl
  obtain ⟨r, hF, hp⟩ : ∃ r, F_X1_least f0 g0 a0 = r ∧ r = out := ⟨out, hF, rfl⟩
  unfold F_X1_least at hF
  refine lv_aload_n hx hb dX1_least_0 rfl (lv_at hl 0 rfl) ?_
  refine va_get (D := D) (ci := 1) (v := .int (f0 17)) (C := RX1) (T := TX1) (N := 4) hx hb hts hiX1 hown hK hP 6 rfl rfl 3 (by decide) hf22 (fun _ h9 => h9) rfl dX1_least_1 ?_
  refine lv_if_ne (tgt := 11) hx hb dX1_least_4 (by decide) (fun hc1 => ?_) (fun hc1 => ?_)
  · have hF := it_n hc1 hF
    refine lv_bipush (v := 10) hx hb dX1_least_11 (by decide) ?_
    refine lv_aload_n hx hb dX1_least_13 rfl (lv_at hl 0 rfl) ?_
    refine va_get (D := D) (ci := 1) (v := .ref (ad 28)) (C := RX1) (T := TX1) (N := 4) hx hb hts hiX1 hown hK hP 6 rfl rfl 0 (by decide) hf9 (fun _ h9 => h9) rfl dX1_least_14 ?_
    refine lv_iconst (v := 0) hx hb dX1_least_17 (by decide) ?_
    refine kS_i (va_runSN (As := [.ref (ad 28), .int 0]) (rest := [.int 10]) ⟨hx, hb, hml, hown, hts⟩ (c_X11_at l hz D (tX ck) (wX ad ck f0 g0 a0) 28 15 rfl rfl (by decide) 0) ⟨va_cnB 2 hts gX1_least_X11_at_n50 rfl rfl rfl (hE.2.1 _ knX1_50) (hts (.initialized RX11) (by decide +kernel)) pX11_at ⟨Nat.le_of_ble_eq_true rfl, Nat.le_of_ble_eq_true rfl⟩, hts (.static yX11_at) (by decide +kernel), trivial⟩ (kR.preS hP hE) rfl rfl hl.1 rfl (lv_room (Nat.le_of_ble_eq_true rfl)) dX1_least_18 ⟨Nat.le_refl _, Nat.le_refl _⟩) ?_
    refine lv_imul hx hb dX1_least_21 ?_
    refine lv_aload_n hx hb dX1_least_22 rfl (lv_at hl 0 rfl) ?_
    refine va_get (D := D) (ci := 1) (v := .ref (ad 29)) (C := RX1) (T := TX1) (N := 4) hx hb hts hiX1 hown hK hP 6 rfl rfl 1 (by decide) hf15 (fun _ h9 => h9) rfl dX1_least_23 ?_
    refine lv_iconst (v := 0) hx hb dX1_least_26 (by decide) ?_
    refine kS_i (va_runSN (As := [.ref (ad 29), .int 0]) (rest := [.int ((10 : Int32) * (F_at 25 (a0 28) 0))]) ⟨hx, hb, hml, hown, hts⟩ (c_X11_at l hz D (tX ck) (wX ad ck f0 g0 a0) 29 16 rfl rfl (by decide) 0) ⟨va_cnB 2 hts gX1_least_X11_at_n50 rfl rfl rfl (hE.2.1 _ knX1_50) (hts (.initialized RX11) (by decide +kernel)) pX11_at ⟨Nat.le_of_ble_eq_true rfl, Nat.le_of_ble_eq_true rfl⟩, hts (.static yX11_at) (by decide +kernel), trivial⟩ (kR.preS hP hE) rfl rfl hl.1 rfl (lv_room (Nat.le_of_ble_eq_true rfl)) dX1_least_27 ⟨Nat.le_refl _, Nat.le_refl _⟩) ?_
    refine lv_iadd hx hb dX1_least_30 ?_
    exact W.iret hx hb hr (fun t ht hW => ⟨_, rfl, hF.trans hp, ht⟩) (fun q hq => by cases hq) dX1_least_31
  · have hF := it_p hc1 hF
    refine lv_iconst (v := (-1)) hx hb dX1_least_7 (by decide) ?_
    refine lv_goto (tgt := 31) hx hb dX1_least_8 (by decide) ?_
    exact W.iret hx hb hr (fun t ht hW => ⟨_, rfl, hF.trans hp, ht⟩) (fun q hq => by cases hq) dX1_least_31

def N_X1_leftAtWorst_47 (f0 : Nat → Int32) (g0 : Nat → Int64) (a0 : Nat → Nat → Int32) (x2_5 : Int32) (x3_47 : Int32) (x4_47 : Int32) : Option ((Int32 × Int32) ⊕ Int32) := some (.inl (x3_47, (x4_47 + 1)))
def B_X1_leftAtWorst_5 (f0 : Nat → Int32) (g0 : Nat → Int64) (a0 : Nat → Nat → Int32) (x2_5 : Int32) (x3_5 : Int32) (x4_5 : Int32) : Option ((Int32 × Int32) ⊕ Int32) := if (f0 17) ≤ x4_5 then Option.map Sum.inr (some (if x3_5 < ((f0 17) - x3_5) then ((f0 17) - x3_5) else x3_5)) else if (F_X9_couldWrite f0 g0 a0 (f0 16) x2_5 (F_at 25 (a0 28) x4_5) (F_at 25 (a0 29) x4_5)) = 0 then N_X1_leftAtWorst_47 f0 g0 a0 x2_5 x3_5 x4_5 else N_X1_leftAtWorst_47 f0 g0 a0 x2_5 (x3_5 + 1) x4_5
def N_X1_leftAtWorst_5 (f0 : Nat → Int32) (g0 : Nat → Int64) (a0 : Nat → Nat → Int32) (x2_5 : Int32) (x3_5 : Int32) (x4_5 : Int32) : Option Int32 := lpN (fun q5 : (Int32 × Int32) => B_X1_leftAtWorst_5 f0 g0 a0 x2_5 q5.1 q5.2) kFu (x3_5, x4_5)
def F_X1_leftAtWorst (f0 : Nat → Int32) (g0 : Nat → Int64) (a0 : Nat → Nat → Int32) (p2 : Int32) : Option Int32 := N_X1_leftAtWorst_5 f0 g0 a0 p2 0 0
set_option maxHeartbeats 4000000 in
set_option maxRecDepth 100000 in
theorem c_X1_leftAtWorst (l : Launch) (hz : Nat) (D : va_G) (ad : Nat → Nat) (ck : Nat → ClassId) (f0 : Nat → Int32) (g0 : Nat → Int64) (a0 : Nat → Nat → Int32) (p2 : Int32) (out : Int32) (hF : F_X1_leftAtWorst f0 g0 a0 p2 = some out) : Met l yX1_leftAtWorst wsX1_leftAtWorst ({ frames := 3, cells := 0, slots := 0, locals := 72 }) (kR hz D vwCl (tX ck) (wX ad ck f0 g0 a0) [.ref (ad 6), .ref (ad 2), .int p2]) (kZi out) 0 0 (fun _ => False) := by
  refine Met.ofW (cc := cX1_leftAtWorst) (maxL := 5) (ret := (some .int)) (by decide) rfl ?_
  intro p e s m args below meth c s₁ B hml hv
  obtain ⟨rfl, hP, hE⟩ := hv
  have hx := B.exec
  have hb := B.bytes
  have hr := B.returns
  have hts := atoms_spec (ws := wsX1_leftAtWorst) B.pre
  have hown : s.vm.findClass RX1 = some m.cls := findClass_of_methodNamed B.named
  have hlocks := B.notSynchronized
  have hK := hE.1
  have hiX1 : ∀ w ∈ u_ws RX1 TX1 4, w ∈ wsX1_leftAtWorst := by decide +kernel
  have hf9 := hts (.fieldLink RX1 9 "SpeltByFriends$Guesses" "firsts" "[I") (by decide +kernel)
  have hf15 := hts (.fieldLink RX1 15 "SpeltByFriends$Guesses" "lasts" "[I") (by decide +kernel)
  have hf18 := hts (.fieldLink RX1 18 "SpeltByFriends$Guesses" "person" "I") (by decide +kernel)
  have hf22 := hts (.fieldLink RX1 22 "SpeltByFriends$Guesses" "many" "I") (by decide +kernel)
  have hN_5 : ∀ (x2_5 : Int32) (n5 : Nat) (x3_5 : Int32) (x4_5 : Int32) (ls : Array Slot), lv_has ls 5 [(0, .ref (ad 6)), (1, .ref (ad 2)), (2, .int x2_5), (3, .int x3_5), (4, .int x4_5)] → ∀ r : Int32, lpN (fun q5 : (Int32 × Int32) => B_X1_leftAtWorst_5 f0 g0 a0 x2_5 q5.1 q5.2) n5 (x3_5, x4_5) = some r → (fun r => r = out) r → W p l e (headSpec wsX1_leftAtWorst ({ frames := 3, cells := 0, slots := 0, locals := 72 })).room s m [.ref (ad 6), .ref (ad 2), .int p2].toArray below meth c s.heap [] 0 0 (MQ below (kZi out) [.ref (ad 6), .ref (ad 2), .int p2].toArray s 0 0 (fun _ => False)) (F0 m 5 ls []) := by
    intro x2_5 n5
    induction n5 with
    | zero => intro x3_5 x4_5 ls hl r hF hp; exact (lp_z hF).elim
    | succ n5 ih5 =>
      intro x3_5 x4_5 ls hl r hF hp
      obtain ⟨rs, hF, hp⟩ := lpN_K (P := (fun r => r = out)) hF hp
      have hN_47 : ∀ (x3_47 : Int32) (x4_47 : Int32) (ls : Array Slot), lv_has ls 5 [(0, .ref (ad 6)), (1, .ref (ad 2)), (2, .int x2_5), (3, .int x3_47), (4, .int x4_47)] → ∀ r : ((Int32 × Int32) ⊕ Int32), N_X1_leftAtWorst_47 f0 g0 a0 x2_5 x3_47 x4_47 = some r → (lpK (fun q5 : (Int32 × Int32) => B_X1_leftAtWorst_5 f0 g0 a0 x2_5 q5.1 q5.2) n5 (fun r => r = out)) r → W p l e (headSpec wsX1_leftAtWorst ({ frames := 3, cells := 0, slots := 0, locals := 72 })).room s m [.ref (ad 6), .ref (ad 2), .int p2].toArray below meth c s.heap [] 0 0 (MQ below (kZi out) [.ref (ad 6), .ref (ad 2), .int p2].toArray s 0 0 (fun _ => False)) (F0 m 47 ls []) := by
        intro x3_47 x4_47 ls hl r hF hp
        unfold N_X1_leftAtWorst_47 at hF
        refine lv_iinc (v := (x4_47 + 1)) (lv' := [(4, .int (x4_47 + 1)), (0, .ref (ad 6)), (1, .ref (ad 2)), (2, .int x2_5), (3, .int x3_47)]) hx hb dX1_leftAtWorst_47 hl (k := 4) rfl rfl (by decide) rfl (fun ls hl => ?_)
        refine lv_goto (tgt := 5) hx hb dX1_leftAtWorst_50 (by decide) ?_
        have hF := Option.some.inj hF
        subst hF
        obtain ⟨r, hF, hp⟩ := hp
        exact ih5 x3_47 (x4_47 + 1) ls (lv_sub hl [1, 2, 3, 4, 0] rfl) r hF hp
      unfold B_X1_leftAtWorst_5 at hF
      refine lv_iload hx hb dX1_leftAtWorst_5 (lv_at hl 4 rfl) ?_
      refine lv_aload_n hx hb dX1_leftAtWorst_7 rfl (lv_at hl 0 rfl) ?_
      refine va_get (D := D) (ci := 1) (v := .int (f0 17)) (C := RX1) (T := TX1) (N := 4) hx hb hts hiX1 hown hK hP 6 rfl rfl 3 (by decide) hf22 (fun _ h9 => h9) rfl dX1_leftAtWorst_8 ?_
      refine lv_icmp_ge (tgt := 53) hx hb dX1_leftAtWorst_11 (by decide) (fun hc1 => ?_) (fun hc1 => ?_)
      · have hF := it_p hc1 hF
        obtain ⟨r, hF1, hr0⟩ := mp_s hF
        clear hF
        subst hr0
        have hF := hF1
        clear hF1
        have hp : (fun r => r = out) r := hp
        refine lv_iload_n hx hb dX1_leftAtWorst_53 rfl (lv_at hl 3 rfl) ?_
        refine lv_aload_n hx hb dX1_leftAtWorst_54 rfl (lv_at hl 0 rfl) ?_
        refine va_get (D := D) (ci := 1) (v := .int (f0 17)) (C := RX1) (T := TX1) (N := 4) hx hb hts hiX1 hown hK hP 6 rfl rfl 3 (by decide) hf22 (fun _ h9 => h9) rfl dX1_leftAtWorst_55 ?_
        refine lv_iload_n hx hb dX1_leftAtWorst_58 rfl (lv_at hl 3 rfl) ?_
        refine lv_isub hx hb dX1_leftAtWorst_59 ?_
        refine va_mmax hx hb (hml.trans hl.1.symm) hown (hts (.methodLink RX1 72 Lib.Math.max.name) (by decide +kernel)) (hts (.static Lib.Math.max.name) (by decide +kernel)) (hts (.initialized "java/lang/Math") (by decide +kernel)) (hts (.code Lib.Math.max.name Lib.Math.max.code 2 (some .int)) (by decide +kernel)) (Nat.le_of_ble_eq_true rfl) (Nat.le_of_ble_eq_true rfl) (Nat.le_refl _) (Nat.le_refl _) dX1_leftAtWorst_60 ?_
        exact W.iret hx hb hr (fun t ht hW => ⟨_, rfl, (Option.some.inj hF).trans hp, ht⟩) (fun q hq => by cases hq) dX1_leftAtWorst_63
      · have hF := it_n hc1 hF
        refine lv_aload_n hx hb dX1_leftAtWorst_14 rfl (lv_at hl 1 rfl) ?_
        refine lv_aload_n hx hb dX1_leftAtWorst_15 rfl (lv_at hl 0 rfl) ?_
        refine va_get (D := D) (ci := 1) (v := .int (f0 16)) (C := RX1) (T := TX1) (N := 4) hx hb hts hiX1 hown hK hP 6 rfl rfl 2 (by decide) hf18 (fun _ h9 => h9) rfl dX1_leftAtWorst_16 ?_
        refine lv_iload_n hx hb dX1_leftAtWorst_19 rfl (lv_at hl 2 rfl) ?_
        refine lv_aload_n hx hb dX1_leftAtWorst_20 rfl (lv_at hl 0 rfl) ?_
        refine va_get (D := D) (ci := 1) (v := .ref (ad 28)) (C := RX1) (T := TX1) (N := 4) hx hb hts hiX1 hown hK hP 6 rfl rfl 0 (by decide) hf9 (fun _ h9 => h9) rfl dX1_leftAtWorst_21 ?_
        refine lv_iload hx hb dX1_leftAtWorst_24 (lv_at hl 4 rfl) ?_
        refine kS_i (va_runSN (As := [.ref (ad 28), .int x4_5]) (rest := [.int x2_5, .int (f0 16), .ref (ad 2)]) ⟨hx, hb, hml, hown, hts⟩ (c_X11_at l hz D (tX ck) (wX ad ck f0 g0 a0) 28 15 rfl rfl (by decide) x4_5) ⟨va_cnB 2 hts gX1_leftAtWorst_X11_at_n50 rfl rfl rfl (hE.2.1 _ knX1_50) (hts (.initialized RX11) (by decide +kernel)) pX11_at ⟨Nat.le_of_ble_eq_true rfl, Nat.le_of_ble_eq_true rfl⟩, hts (.static yX11_at) (by decide +kernel), trivial⟩ (kR.preS hP hE) rfl rfl hl.1 rfl (lv_room (Nat.le_of_ble_eq_true rfl)) dX1_leftAtWorst_26 ⟨Nat.le_refl _, Nat.le_refl _⟩) ?_
        refine lv_aload_n hx hb dX1_leftAtWorst_29 rfl (lv_at hl 0 rfl) ?_
        refine va_get (D := D) (ci := 1) (v := .ref (ad 29)) (C := RX1) (T := TX1) (N := 4) hx hb hts hiX1 hown hK hP 6 rfl rfl 1 (by decide) hf15 (fun _ h9 => h9) rfl dX1_leftAtWorst_30 ?_
        refine lv_iload hx hb dX1_leftAtWorst_33 (lv_at hl 4 rfl) ?_
        refine kS_i (va_runSN (As := [.ref (ad 29), .int x4_5]) (rest := [.int (F_at 25 (a0 28) x4_5), .int x2_5, .int (f0 16), .ref (ad 2)]) ⟨hx, hb, hml, hown, hts⟩ (c_X11_at l hz D (tX ck) (wX ad ck f0 g0 a0) 29 16 rfl rfl (by decide) x4_5) ⟨va_cnB 2 hts gX1_leftAtWorst_X11_at_n50 rfl rfl rfl (hE.2.1 _ knX1_50) (hts (.initialized RX11) (by decide +kernel)) pX11_at ⟨Nat.le_of_ble_eq_true rfl, Nat.le_of_ble_eq_true rfl⟩, hts (.static yX11_at) (by decide +kernel), trivial⟩ (kR.preS hP hE) rfl rfl hl.1 rfl (lv_room (Nat.le_of_ble_eq_true rfl)) dX1_leftAtWorst_35 ⟨Nat.le_refl _, Nat.le_refl _⟩) ?_
        refine kS_b (va_runV (As := [.int (f0 16), .int x2_5, .int (F_at 25 (a0 28) x4_5), .int (F_at 25 (a0 29) x4_5)]) (rest := []) ⟨hx, hb, hml, hown, hts⟩ (c_X9_couldWrite l hz D ad ck f0 g0 a0 (f0 16) x2_5 (F_at 25 (a0 28) x4_5) (F_at 25 (a0 29) x4_5)) (cwV 4 hts gX1_leftAtWorst_X9_couldWrite rfl rfl rfl ⟨rfl, pX9_couldWrite⟩ ⟨Nat.le_of_ble_eq_true rfl, Nat.le_of_ble_eq_true rfl⟩) (kR.preV (va_recv hK hP (ci := 9) (q0 := 2) rfl rfl) hP hE) rfl rfl hl.1 rfl (lv_room (Nat.le_of_ble_eq_true rfl)) dX1_leftAtWorst_38 ⟨Nat.le_refl _, Nat.le_refl _⟩) (fun hz2 => ?_)
        refine lv_if_eq (tgt := 47) hx hb dX1_leftAtWorst_41 (by decide) (fun hc3 => ?_) (fun hc3 => ?_)
        · have hF := it_p hc3 hF
          exact hN_47 x3_5 x4_5 ls (lv_sub hl [0, 1, 2, 3, 4] rfl) _ hF hp
        · have hF := it_n hc3 hF
          refine lv_iinc (v := (x3_5 + 1)) (lv' := [(3, .int (x3_5 + 1)), (0, .ref (ad 6)), (1, .ref (ad 2)), (2, .int x2_5), (4, .int x4_5)]) hx hb dX1_leftAtWorst_44 hl (k := 3) rfl rfl (by decide) rfl (fun ls hl => ?_)
          exact hN_47 (x3_5 + 1) x4_5 ls (lv_sub hl [1, 2, 3, 0, 4] rfl) _ hF hp
  have hl := lv_entry ([.ref (ad 6), .ref (ad 2), .int p2]) (n := 5) (Nat.le_of_ble_eq_true rfl)
  rw [lg_entry_eq]
  generalize (lg_sl ([.ref (ad 6), .ref (ad 2), .int p2]) ++ List.replicate (5 - (lg_sl ([.ref (ad 6), .ref (ad 2), .int p2])).length) Slot.unset).toArray = ls at hl ⊢
  have hl : lv_has ls 5 [(0, .ref (ad 6)), (1, .ref (ad 2)), (2, .int p2)] := hl
  obtain ⟨r, hF, hp⟩ : ∃ r, F_X1_leftAtWorst f0 g0 a0 p2 = some r ∧ r = out := ⟨out, hF, rfl⟩
  unfold F_X1_leftAtWorst at hF
  refine lv_iconst (v := 0) hx hb dX1_leftAtWorst_0 (by decide) ?_
  refine lv_istore_n (lv' := [(3, .int 0), (0, .ref (ad 6)), (1, .ref (ad 2)), (2, .int p2)]) hx hb dX1_leftAtWorst_1 rfl hl (by decide) rfl (fun ls hl => ?_)
  refine lv_iconst (v := 0) hx hb dX1_leftAtWorst_2 (by decide) ?_
  refine lv_istore (lv' := [(4, .int 0), (3, .int 0), (0, .ref (ad 6)), (1, .ref (ad 2)), (2, .int p2)]) hx hb dX1_leftAtWorst_3 hl (by decide) rfl (fun ls hl => ?_)
  exact hN_5 p2 kFu 0 0 ls (lv_sub hl [2, 3, 4, 1, 0] rfl) _ hF hp

def N_X1_bestCompany_66 (f0 : Nat → Int32) (g0 : Nat → Int64) (a0 : Nat → Nat → Int32) (x2_66 : Int32) (x3_66 : Int32) (x4_66 : Int32) : Option ((Int32 × Int32 × Int32) ⊕ Int32) := some (.inl (x2_66, x3_66, (x4_66 + 1)))
def B_X1_bestCompany_21 (f0 : Nat → Int32) (g0 : Nat → Int64) (a0 : Nat → Nat → Int32) (x2_21 : Int32) (x3_21 : Int32) (x4_21 : Int32) : Option ((Int32 × Int32 × Int32) ⊕ Int32) := if ((1 : Int32) <<< ((f0 5) &&& 31)) ≤ x4_21 then Option.map Sum.inr (some x2_21) else if (F_X9_isCompanyOf f0 g0 a0 (f0 16) x4_21) = 0 then N_X1_bestCompany_66 f0 g0 a0 x2_21 x3_21 x4_21 else (F_X1_leftAtWorst f0 g0 a0 x4_21).bind fun r5 => if x3_21 ≤ r5 then N_X1_bestCompany_66 f0 g0 a0 x2_21 x3_21 x4_21 else N_X1_bestCompany_66 f0 g0 a0 x4_21 r5 x4_21
def N_X1_bestCompany_21 (f0 : Nat → Int32) (g0 : Nat → Int64) (a0 : Nat → Nat → Int32) (x2_21 : Int32) (x3_21 : Int32) (x4_21 : Int32) : Option Int32 := lpN (fun q21 : (Int32 × Int32 × Int32) => B_X1_bestCompany_21 f0 g0 a0 q21.1 q21.2.1 q21.2.2) kFu (x2_21, x3_21, x4_21)
def F_X1_bestCompany (f0 : Nat → Int32) (g0 : Nat → Int64) (a0 : Nat → Nat → Int32) : Option Int32 := if (f0 17) = 0 then some (-1) else N_X1_bestCompany_21 f0 g0 a0 (-1) ((f0 17) + (1 : Int32)) 0
set_option maxHeartbeats 4000000 in
set_option maxRecDepth 100000 in
theorem c_X1_bestCompany (l : Launch) (hz : Nat) (D : va_G) (ad : Nat → Nat) (ck : Nat → ClassId) (f0 : Nat → Int32) (g0 : Nat → Int64) (a0 : Nat → Nat → Int32) (out : Int32) (hF : F_X1_bestCompany f0 g0 a0 = some out) : Met l yX1_bestCompany wsX1_bestCompany ({ frames := 4, cells := 0, slots := 0, locals := 96 }) (kR hz D vwCl (tX ck) (wX ad ck f0 g0 a0) [.ref (ad 6), .ref (ad 2)]) (kZi out) 0 0 (fun _ => False) := by
  refine Met.ofW (cc := cX1_bestCompany) (maxL := 6) (ret := (some .int)) (by decide) rfl ?_
  intro p e s m args below meth c s₁ B hml hv
  obtain ⟨rfl, hP, hE⟩ := hv
  have hx := B.exec
  have hb := B.bytes
  have hr := B.returns
  have hts := atoms_spec (ws := wsX1_bestCompany) B.pre
  have hown : s.vm.findClass RX1 = some m.cls := findClass_of_methodNamed B.named
  have hlocks := B.notSynchronized
  have hK := hE.1
  have hiX1 : ∀ w ∈ u_ws RX1 TX1 4, w ∈ wsX1_bestCompany := by decide +kernel
  have hiX9 : ∀ w ∈ u_ws RX9 TX9 4, w ∈ wsX1_bestCompany := by decide +kernel
  have hf18 := hts (.fieldLink RX1 18 "SpeltByFriends$Guesses" "person" "I") (by decide +kernel)
  have hf22 := hts (.fieldLink RX1 22 "SpeltByFriends$Guesses" "many" "I") (by decide +kernel)
  have hf25 := hts (.fieldLink RX1 25 "SpeltByFriends$Town" "size" "I") (by decide +kernel)
  have hN_21 : ∀ (n21 : Nat) (x2_21 : Int32) (x3_21 : Int32) (x4_21 : Int32) (ls : Array Slot), lv_has ls 6 [(0, .ref (ad 6)), (1, .ref (ad 2)), (2, .int x2_21), (3, .int x3_21), (4, .int x4_21)] → ∀ r : Int32, lpN (fun q21 : (Int32 × Int32 × Int32) => B_X1_bestCompany_21 f0 g0 a0 q21.1 q21.2.1 q21.2.2) n21 (x2_21, x3_21, x4_21) = some r → (fun r => r = out) r → W p l e (headSpec wsX1_bestCompany ({ frames := 4, cells := 0, slots := 0, locals := 96 })).room s m [.ref (ad 6), .ref (ad 2)].toArray below meth c s.heap [] 0 0 (MQ below (kZi out) [.ref (ad 6), .ref (ad 2)].toArray s 0 0 (fun _ => False)) (F0 m 21 ls []) := by
    intro n21
    induction n21 with
    | zero => intro x2_21 x3_21 x4_21 ls hl r hF hp; exact (lp_z hF).elim
    | succ n21 ih21 =>
      intro x2_21 x3_21 x4_21 ls hl r hF hp
      obtain ⟨rs, hF, hp⟩ := lpN_K (P := (fun r => r = out)) hF hp
      have hN_66 : ∀ (x2_66 : Int32) (x3_66 : Int32) (x4_66 : Int32) (ls : Array Slot), lv_has ls 6 [(0, .ref (ad 6)), (1, .ref (ad 2)), (2, .int x2_66), (3, .int x3_66), (4, .int x4_66)] → ∀ r : ((Int32 × Int32 × Int32) ⊕ Int32), N_X1_bestCompany_66 f0 g0 a0 x2_66 x3_66 x4_66 = some r → (lpK (fun q21 : (Int32 × Int32 × Int32) => B_X1_bestCompany_21 f0 g0 a0 q21.1 q21.2.1 q21.2.2) n21 (fun r => r = out)) r → W p l e (headSpec wsX1_bestCompany ({ frames := 4, cells := 0, slots := 0, locals := 96 })).room s m [.ref (ad 6), .ref (ad 2)].toArray below meth c s.heap [] 0 0 (MQ below (kZi out) [.ref (ad 6), .ref (ad 2)].toArray s 0 0 (fun _ => False)) (F0 m 66 ls []) := by
        intro x2_66 x3_66 x4_66 ls hl r hF hp
        unfold N_X1_bestCompany_66 at hF
        refine lv_iinc (v := (x4_66 + 1)) (lv' := [(4, .int (x4_66 + 1)), (0, .ref (ad 6)), (1, .ref (ad 2)), (2, .int x2_66), (3, .int x3_66)]) hx hb dX1_bestCompany_66 hl (k := 4) rfl rfl (by decide) rfl (fun ls hl => ?_)
        refine lv_goto (tgt := 21) hx hb dX1_bestCompany_69 (by decide) ?_
        have hF := Option.some.inj hF
        subst hF
        obtain ⟨r, hF, hp⟩ := hp
        exact ih21 x2_66 x3_66 (x4_66 + 1) ls (lv_sub hl [1, 2, 3, 4, 0] rfl) r hF hp
      unfold B_X1_bestCompany_21 at hF
      refine lv_iload hx hb dX1_bestCompany_21 (lv_at hl 4 rfl) ?_
      refine lv_iconst (v := 1) hx hb dX1_bestCompany_23 (by decide) ?_
      refine lv_aload_n hx hb dX1_bestCompany_24 rfl (lv_at hl 1 rfl) ?_
      refine va_get (D := D) (ci := 9) (v := .int (f0 5)) (C := RX9) (T := TX9) (N := 4) hx hb hts hiX9 hown hK hP 2 rfl rfl 3 (by decide) hf25 (fun _ h9 => h9) rfl dX1_bestCompany_25 ?_
      refine lv_ishl hx hb dX1_bestCompany_28 ?_
      refine lv_icmp_ge (tgt := 72) hx hb dX1_bestCompany_29 (by decide) (fun hc2 => ?_) (fun hc2 => ?_)
      · have hF := it_p hc2 hF
        obtain ⟨r, hF1, hr0⟩ := mp_s hF
        clear hF
        subst hr0
        have hF := hF1
        clear hF1
        have hp : (fun r => r = out) r := hp
        refine lv_iload_n hx hb dX1_bestCompany_72 rfl (lv_at hl 2 rfl) ?_
        exact W.iret hx hb hr (fun t ht hW => ⟨_, rfl, (Option.some.inj hF).trans hp, ht⟩) (fun q hq => by cases hq) dX1_bestCompany_73
      · have hF := it_n hc2 hF
        refine lv_aload_n hx hb dX1_bestCompany_32 rfl (lv_at hl 1 rfl) ?_
        refine lv_aload_n hx hb dX1_bestCompany_33 rfl (lv_at hl 0 rfl) ?_
        refine va_get (D := D) (ci := 1) (v := .int (f0 16)) (C := RX1) (T := TX1) (N := 4) hx hb hts hiX1 hown hK hP 6 rfl rfl 2 (by decide) hf18 (fun _ h9 => h9) rfl dX1_bestCompany_34 ?_
        refine lv_iload hx hb dX1_bestCompany_37 (lv_at hl 4 rfl) ?_
        refine kS_b (va_runV (As := [.int (f0 16), .int x4_21]) (rest := []) ⟨hx, hb, hml, hown, hts⟩ (c_X9_isCompanyOf l hz D ad ck f0 g0 a0 (f0 16) x4_21) (cwV 2 hts gX1_bestCompany_X9_isCompanyOf rfl rfl rfl ⟨rfl, pX9_isCompanyOf⟩ ⟨Nat.le_of_ble_eq_true rfl, Nat.le_of_ble_eq_true rfl⟩) (kR.preV (va_recv hK hP (ci := 9) (q0 := 2) rfl rfl) hP hE) rfl rfl hl.1 rfl (lv_room (Nat.le_of_ble_eq_true rfl)) dX1_bestCompany_39 ⟨Nat.le_refl _, Nat.le_refl _⟩) (fun hz3 => ?_)
        refine lv_if_eq (tgt := 66) hx hb dX1_bestCompany_42 (by decide) (fun hc4 => ?_) (fun hc4 => ?_)
        · have hF := it_p hc4 hF
          exact hN_66 x2_21 x3_21 x4_21 ls (lv_sub hl [0, 1, 2, 3, 4] rfl) _ hF hp
        · have hF := it_n hc4 hF
          refine lv_aload_n hx hb dX1_bestCompany_45 rfl (lv_at hl 0 rfl) ?_
          refine lv_aload_n hx hb dX1_bestCompany_46 rfl (lv_at hl 1 rfl) ?_
          refine lv_iload hx hb dX1_bestCompany_47 (lv_at hl 4 rfl) ?_
          obtain ⟨r5, he5, hF⟩ := bd_s hF
          refine kS_i (va_runV (As := [.ref (ad 2), .int x4_21]) (rest := []) ⟨hx, hb, hml, hown, hts⟩ (c_X1_leftAtWorst l hz D ad ck f0 g0 a0 x4_21 r5 he5) (cwV 2 hts gX1_bestCompany_X1_leftAtWorst rfl rfl rfl ⟨rfl, pX1_leftAtWorst⟩ ⟨Nat.le_of_ble_eq_true rfl, Nat.le_of_ble_eq_true rfl⟩) (kR.preV (va_recv hK hP (ci := 1) (q0 := 6) rfl rfl) hP hE) rfl rfl hl.1 rfl (lv_room (Nat.le_of_ble_eq_true rfl)) dX1_bestCompany_49 ⟨Nat.le_refl _, Nat.le_refl _⟩) ?_
          refine lv_istore (lv' := [(5, .int r5), (0, .ref (ad 6)), (1, .ref (ad 2)), (2, .int x2_21), (3, .int x3_21), (4, .int x4_21)]) hx hb dX1_bestCompany_52 hl (by decide) rfl (fun ls hl => ?_)
          refine lv_iload hx hb dX1_bestCompany_54 (lv_at hl 0 rfl) ?_
          refine lv_iload_n hx hb dX1_bestCompany_56 rfl (lv_at hl 4 rfl) ?_
          refine lv_icmp_ge (tgt := 66) hx hb dX1_bestCompany_57 (by decide) (fun hc6 => ?_) (fun hc6 => ?_)
          · have hF := it_p hc6 hF
            exact hN_66 x2_21 x3_21 x4_21 ls (lv_sub hl [1, 2, 3, 4, 5] rfl) _ hF hp
          · have hF := it_n hc6 hF
            refine lv_iload hx hb dX1_bestCompany_60 (lv_at hl 0 rfl) ?_
            refine lv_istore_n (lv' := [(3, .int r5), (5, .int r5), (0, .ref (ad 6)), (1, .ref (ad 2)), (2, .int x2_21), (4, .int x4_21)]) hx hb dX1_bestCompany_62 rfl hl (by decide) rfl (fun ls hl => ?_)
            refine lv_iload hx hb dX1_bestCompany_63 (lv_at hl 5 rfl) ?_
            refine lv_istore_n (lv' := [(2, .int x4_21), (3, .int r5), (5, .int r5), (0, .ref (ad 6)), (1, .ref (ad 2)), (4, .int x4_21)]) hx hb dX1_bestCompany_65 rfl hl (by decide) rfl (fun ls hl => ?_)
            exact hN_66 x4_21 r5 x4_21 ls (lv_sub hl [3, 4, 0, 1, 5] rfl) _ hF hp
  have hl := lv_entry ([.ref (ad 6), .ref (ad 2)]) (n := 6) (Nat.le_of_ble_eq_true rfl)
  rw [lg_entry_eq]
  generalize (lg_sl ([.ref (ad 6), .ref (ad 2)]) ++ List.replicate (6 - (lg_sl ([.ref (ad 6), .ref (ad 2)])).length) Slot.unset).toArray = ls at hl ⊢
  have hl : lv_has ls 6 [(0, .ref (ad 6)), (1, .ref (ad 2))] := hl
  obtain ⟨r, hF, hp⟩ : ∃ r, F_X1_bestCompany f0 g0 a0 = some r ∧ r = out := ⟨out, hF, rfl⟩
  unfold F_X1_bestCompany at hF
  refine lv_aload_n hx hb dX1_bestCompany_0 rfl (lv_at hl 0 rfl) ?_
  refine va_get (D := D) (ci := 1) (v := .int (f0 17)) (C := RX1) (T := TX1) (N := 4) hx hb hts hiX1 hown hK hP 6 rfl rfl 3 (by decide) hf22 (fun _ h9 => h9) rfl dX1_bestCompany_1 ?_
  refine lv_if_ne (tgt := 9) hx hb dX1_bestCompany_4 (by decide) (fun hc1 => ?_) (fun hc1 => ?_)
  · have hF := it_n hc1 hF
    refine lv_iconst (v := (-1)) hx hb dX1_bestCompany_9 (by decide) ?_
    refine lv_istore_n (lv' := [(2, .int (-1)), (0, .ref (ad 6)), (1, .ref (ad 2))]) hx hb dX1_bestCompany_10 rfl hl (by decide) rfl (fun ls hl => ?_)
    refine lv_aload_n hx hb dX1_bestCompany_11 rfl (lv_at hl 1 rfl) ?_
    refine va_get (D := D) (ci := 1) (v := .int (f0 17)) (C := RX1) (T := TX1) (N := 4) hx hb hts hiX1 hown hK hP 6 rfl rfl 3 (by decide) hf22 (fun _ h9 => h9) rfl dX1_bestCompany_12 ?_
    refine lv_iconst (v := 1) hx hb dX1_bestCompany_15 (by decide) ?_
    refine lv_iadd hx hb dX1_bestCompany_16 ?_
    refine lv_istore_n (lv' := [(3, .int ((f0 17) + (1 : Int32))), (2, .int (-1)), (0, .ref (ad 6)), (1, .ref (ad 2))]) hx hb dX1_bestCompany_17 rfl hl (by decide) rfl (fun ls hl => ?_)
    refine lv_iconst (v := 0) hx hb dX1_bestCompany_18 (by decide) ?_
    refine lv_istore (lv' := [(4, .int 0), (3, .int ((f0 17) + (1 : Int32))), (2, .int (-1)), (0, .ref (ad 6)), (1, .ref (ad 2))]) hx hb dX1_bestCompany_19 hl (by decide) rfl (fun ls hl => ?_)
    exact hN_21 kFu (-1) ((f0 17) + (1 : Int32)) 0 ls (lv_sub hl [3, 4, 2, 1, 0] rfl) _ hF hp
  · have hF := it_p hc1 hF
    refine lv_iconst (v := (-1)) hx hb dX1_bestCompany_7 (by decide) ?_
    exact W.iret hx hb hr (fun t ht hW => ⟨_, rfl, (Option.some.inj hF).trans hp, ht⟩) (fun q hq => by cases hq) dX1_bestCompany_8
