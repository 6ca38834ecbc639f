/-! ===== the reference, by program (tools/gen.py) ===== -/
def N_X12_layWritten_60 (f60 : Nat → Int32) (g60 : Nat → Int64) (a60 : Nat → Nat → Int32) (x1_21 : Int32) (x2_60 : Int32) (t0_60 : Int32) (t1_60 : Int32) (t2_60 : Int32) : Option ((Int32 × ST) ⊕ ((Int32 × ST) ⊕ ST)) := gd (inB t2_60 32) (some (.inl ((x2_60 + 1), f60, g60, (ua a60 16 t2_60.toNatClampNeg (t1_60 ||| t0_60)))))
def N_X12_layWritten_59 (f59 : Nat → Int32) (g59 : Nat → Int64) (a59 : Nat → Nat → Int32) (x1_21 : Int32) (x2_59 : Int32) (t0_59 : Int32) (t1_59 : Int32) : Option ((Int32 × ST) ⊕ ((Int32 × ST) ⊕ ST)) := N_X12_layWritten_60 f59 g59 a59 x1_21 x2_59 0 t0_59 t1_59
def B_X12_layWritten_21 (f21 : Nat → Int32) (g21 : Nat → Int64) (a21 : Nat → Nat → Int32) (x1_21 : Int32) (x2_21 : Int32) : Option ((Int32 × ST) ⊕ ((Int32 × ST) ⊕ ST)) := if (f21 1) ≤ x2_21 then Option.map Sum.inr (some (.inl ((x1_21 + 1), f21, g21, a21))) else gd (inB x1_21 32) (if (F_X12_isIn x1_21 x2_21) = 0 then N_X12_layWritten_59 f21 g21 a21 x1_21 x2_21 (a21 16 x1_21.toNatClampNeg) x1_21 else (F_X12_isWritten f21 g21 a21 x2_21 x1_21).bind fun r8 => if r8 = 0 then N_X12_layWritten_59 f21 g21 a21 x1_21 x2_21 (a21 16 x1_21.toNatClampNeg) x1_21 else N_X12_layWritten_60 f21 g21 a21 x1_21 x2_21 ((1 : Int32) <<< (x2_21 &&& 31)) (a21 16 x1_21.toNatClampNeg) x1_21)
def N_X12_layWritten_21 (f21 : Nat → Int32) (g21 : Nat → Int64) (a21 : Nat → Nat → Int32) (x1_21 : Int32) (x2_21 : Int32) : Option ((Int32 × ST) ⊕ ST) := lpN (fun q21 : (Int32 × ST) => B_X12_layWritten_21 q21.2.1 q21.2.2.1 q21.2.2.2 x1_21 q21.1) kFu (x2_21, f21, g21, a21)
def B_X12_layWritten_2 (f2 : Nat → Int32) (g2 : Nat → Int64) (a2 : Nat → Nat → Int32) (x1_2 : Int32) : Option ((Int32 × ST) ⊕ ST) := if ((1 : Int32) <<< ((f2 1) &&& 31)) ≤ x1_2 then Option.map Sum.inr (some (f2, g2, a2)) else gd (inB x1_2 32) (N_X12_layWritten_21 f2 g2 (ua a2 16 x1_2.toNatClampNeg 0) x1_2 0)
def N_X12_layWritten_2 (f2 : Nat → Int32) (g2 : Nat → Int64) (a2 : Nat → Nat → Int32) (x1_2 : Int32) : Option ST := lpN (fun q2 : (Int32 × ST) => B_X12_layWritten_2 q2.2.1 q2.2.2.1 q2.2.2.2 q2.1) kFu (x1_2, f2, g2, a2)
def F_X12_layWritten (f0 : Nat → Int32) (g0 : Nat → Int64) (a0 : Nat → Nat → Int32) : Option ST := N_X12_layWritten_2 f0 g0 a0 0
set_option maxHeartbeats 4000000 in
set_option maxRecDepth 100000 in
theorem c_X12_layWritten (l : Launch) (hz : Nat) (D : va_G) (ad : Nat → Nat) (ck : Nat → ClassId) (f0 : Nat → Int32) (g0 : Nat → Int64) (a0 : Nat → Nat → Int32) (out : ST) (hF : F_X12_layWritten f0 g0 a0 = some out) : Met l yX12_layWritten wsX12_layWritten ({ frames := 4, cells := 0, slots := 0, locals := 92 }) (kW hz D vwCl (tM ck) (wM ad ck f0 g0 a0) [.ref (ad 0)]) (kQ D vwCl none (wM ad ck f0 g0 a0) (wM ad ck out.1 out.2.1 out.2.2)) 0 0 (kAd (wM ad ck f0 g0 a0)) := by
  refine Met.ofW (cc := cX12_layWritten) (maxL := 3) (ret := none) (by decide) rfl ?_
  intro p e s m args below meth c s₁ B hml hv
  obtain ⟨rfl, hP, hE, hD0⟩ := hv
  have hx := B.exec
  have hb := B.bytes
  have hr := B.returns
  have hts := atoms_spec (ws := wsX12_layWritten) B.pre
  have hown : s.vm.findClass RX12 = some m.cls := findClass_of_methodNamed B.named
  have hlocks := B.notSynchronized
  have hK := hE.1
  have hnA := kAd_up hD0
  have hD := kD_self hD0
  have hS : va_S (kAd (wM ad ck f0 g0 a0)) s.heap s.heap [] := va_S.rf
  have hiX12 : ∀ w ∈ u_ws RX12 TX12 31, w ∈ wsX12_layWritten := by decide +kernel
  have hf35 := hts (.fieldLink RX12 35 "SpeltByFriendsModel" "writtenIn" "[I") (by decide +kernel)
  have hf83 := hts (.fieldLink RX12 83 "SpeltByFriendsModel" "people" "I") (by decide +kernel)
  have hN_2 : ∀ (n2 : Nat) (f2 : Nat → Int32) (g2 : Nat → Int64) (a2 : Nat → Nat → Int32) (H : Heap) (locs : List Loc) (x1_2 : Int32) (ls : Array Slot), va_P D vwCl (wM ad ck f2 g2 a2) H → va_D (kAd (wM ad ck f0 g0 a0)) (wM ad ck f2 g2 a2) → va_S (kAd (wM ad ck f0 g0 a0)) s.heap H locs → lv_has ls 3 [(0, .ref (ad 0)), (1, .int x1_2)] → ∀ r : ST, lpN (fun q2 : (Int32 × ST) => B_X12_layWritten_2 q2.2.1 q2.2.2.1 q2.2.2.2 q2.1) n2 (x1_2, f2, g2, a2) = some r → (fun r => r = out) r → W p l e (headSpec wsX12_layWritten ({ frames := 4, cells := 0, slots := 0, locals := 92 })).room s m [.ref (ad 0)].toArray below meth c H locs 0 0 (MQ below (kQ D vwCl none (wM ad ck f0 g0 a0) (wM ad ck out.1 out.2.1 out.2.2)) [.ref (ad 0)].toArray s 0 0 (kAd (wM ad ck f0 g0 a0))) (F0 m 2 ls []) := by
    intro n2
    induction n2 with
    | zero => intro f2 g2 a2 H locs x1_2 ls hP hD hS hl r hF hp; exact (lp_z hF).elim
    | succ n2 ih2 =>
      intro f2 g2 a2 H locs x1_2 ls hP hD hS hl r hF hp
      obtain ⟨rs, hF, hp⟩ := lpN_K (P := (fun r => r = out)) hF hp
      have hN_21 : ∀ (x1_21 : Int32) (n21 : Nat) (f21 : Nat → Int32) (g21 : Nat → Int64) (a21 : Nat → Nat → Int32) (H : Heap) (locs : List Loc) (x2_21 : Int32) (ls : Array Slot), va_P D vwCl (wM ad ck f21 g21 a21) H → va_D (kAd (wM ad ck f0 g0 a0)) (wM ad ck f21 g21 a21) → va_S (kAd (wM ad ck f0 g0 a0)) s.heap H locs → lv_has ls 3 [(0, .ref (ad 0)), (1, .int x1_21), (2, .int x2_21)] → ∀ r : ((Int32 × ST) ⊕ ST), lpN (fun q21 : (Int32 × ST) => B_X12_layWritten_21 q21.2.1 q21.2.2.1 q21.2.2.2 x1_21 q21.1) n21 (x2_21, f21, g21, a21) = some r → (lpK (fun q2 : (Int32 × ST) => B_X12_layWritten_2 q2.2.1 q2.2.2.1 q2.2.2.2 q2.1) n2 (fun r => r = out)) r → W p l e (headSpec wsX12_layWritten ({ frames := 4, cells := 0, slots := 0, locals := 92 })).room s m [.ref (ad 0)].toArray below meth c H locs 0 0 (MQ below (kQ D vwCl none (wM ad ck f0 g0 a0) (wM ad ck out.1 out.2.1 out.2.2)) [.ref (ad 0)].toArray s 0 0 (kAd (wM ad ck f0 g0 a0))) (F0 m 21 ls []) := by
        intro x1_21 n21
        induction n21 with
        | zero => intro f21 g21 a21 H locs x2_21 ls hP hD hS hl r hF hp; exact (lp_z hF).elim
        | succ n21 ih21 =>
          intro f21 g21 a21 H locs x2_21 ls hP hD hS hl r hF hp
          obtain ⟨rs, hF, hp⟩ := lpN_K (P := (lpK (fun q2 : (Int32 × ST) => B_X12_layWritten_2 q2.2.1 q2.2.2.1 q2.2.2.2 q2.1) n2 (fun r => r = out))) hF hp
          have hN_60 : ∀ (f60 : Nat → Int32) (g60 : Nat → Int64) (a60 : Nat → Nat → Int32) (H : Heap) (locs : List Loc) (x2_60 : Int32) (t0_60 : Int32) (t1_60 : Int32) (t2_60 : Int32) (ls : Array Slot), va_P D vwCl (wM ad ck f60 g60 a60) H → va_D (kAd (wM ad ck f0 g0 a0)) (wM ad ck f60 g60 a60) → va_S (kAd (wM ad ck f0 g0 a0)) s.heap H locs → lv_has ls 3 [(0, .ref (ad 0)), (1, .int x1_21), (2, .int x2_60)] → ∀ r : ((Int32 × ST) ⊕ ((Int32 × ST) ⊕ ST)), N_X12_layWritten_60 f60 g60 a60 x1_21 x2_60 t0_60 t1_60 t2_60 = some r → (lpK (fun q21 : (Int32 × ST) => B_X12_layWritten_21 q21.2.1 q21.2.2.1 q21.2.2.2 x1_21 q21.1) n21 (lpK (fun q2 : (Int32 × ST) => B_X12_layWritten_2 q2.2.1 q2.2.2.1 q2.2.2.2 q2.1) n2 (fun r => r = out))) r → W p l e (headSpec wsX12_layWritten ({ frames := 4, cells := 0, slots := 0, locals := 92 })).room s m [.ref (ad 0)].toArray below meth c H locs 0 0 (MQ below (kQ D vwCl none (wM ad ck f0 g0 a0) (wM ad ck out.1 out.2.1 out.2.2)) [.ref (ad 0)].toArray s 0 0 (kAd (wM ad ck f0 g0 a0))) (F0 m 60 ls [.int t0_60, .int t1_60, .int t2_60, .ref (ad 16)]) := by
            intro f60 g60 a60 H locs x2_60 t0_60 t1_60 t2_60 ls hP hD hS hl r hF hp
            unfold N_X12_layWritten_60 at hF
            refine lv_ior hx hb dX12_layWritten_60 ?_
            obtain ⟨hg7, hF⟩ := gd_s hF
            refine va_iast hx hb hK hP hD hS 9 8 rfl rfl (inB_in hg7) dX12_layWritten_61 (fun H locs hP hD hS => ?_)
            have hP := kPe (eu_wM16 ad ck f60 g60 a60 t2_60.toNatClampNeg (t1_60 ||| t0_60)) hP
            have hD := kDe (eu_wM16 ad ck f60 g60 a60 t2_60.toNatClampNeg (t1_60 ||| t0_60)) hD
            refine lv_iinc (v := (x2_60 + 1)) (lv' := [(2, .int (x2_60 + 1)), (0, .ref (ad 0)), (1, .int x1_21)]) hx hb dX12_layWritten_62 hl (k := 2) rfl rfl (by decide) rfl (fun ls hl => ?_)
            refine lv_goto (tgt := 21) hx hb dX12_layWritten_65 (by decide) ?_
            have hF := Option.some.inj hF
            subst hF
            obtain ⟨r, hF, hp⟩ := hp
            exact ih21 f60 g60 (ua a60 16 t2_60.toNatClampNeg (t1_60 ||| t0_60)) _ _ (x2_60 + 1) ls hP hD hS (lv_sub hl [1, 2, 0] rfl) r hF hp
          have hN_59 : ∀ (f59 : Nat → Int32) (g59 : Nat → Int64) (a59 : Nat → Nat → Int32) (H : Heap) (locs : List Loc) (x2_59 : Int32) (t0_59 : Int32) (t1_59 : Int32) (ls : Array Slot), va_P D vwCl (wM ad ck f59 g59 a59) H → va_D (kAd (wM ad ck f0 g0 a0)) (wM ad ck f59 g59 a59) → va_S (kAd (wM ad ck f0 g0 a0)) s.heap H locs → lv_has ls 3 [(0, .ref (ad 0)), (1, .int x1_21), (2, .int x2_59)] → ∀ r : ((Int32 × ST) ⊕ ((Int32 × ST) ⊕ ST)), N_X12_layWritten_59 f59 g59 a59 x1_21 x2_59 t0_59 t1_59 = some r → (lpK (fun q21 : (Int32 × ST) => B_X12_layWritten_21 q21.2.1 q21.2.2.1 q21.2.2.2 x1_21 q21.1) n21 (lpK (fun q2 : (Int32 × ST) => B_X12_layWritten_2 q2.2.1 q2.2.2.1 q2.2.2.2 q2.1) n2 (fun r => r = out))) r → W p l e (headSpec wsX12_layWritten ({ frames := 4, cells := 0, slots := 0, locals := 92 })).room s m [.ref (ad 0)].toArray below meth c H locs 0 0 (MQ below (kQ D vwCl none (wM ad ck f0 g0 a0) (wM ad ck out.1 out.2.1 out.2.2)) [.ref (ad 0)].toArray s 0 0 (kAd (wM ad ck f0 g0 a0))) (F0 m 59 ls [.int t0_59, .int t1_59, .ref (ad 16)]) := by
            intro f59 g59 a59 H locs x2_59 t0_59 t1_59 ls hP hD hS hl r hF hp
            unfold N_X12_layWritten_59 at hF
            refine lv_iconst (v := 0) hx hb dX12_layWritten_59 (by decide) ?_
            exact hN_60 f59 g59 a59 _ _ x2_59 0 t0_59 t1_59 ls hP hD hS (lv_sub hl [0, 1, 2] rfl) _ hF hp
          unfold B_X12_layWritten_21 at hF
          refine lv_iload_n hx hb dX12_layWritten_21 rfl (lv_at hl 2 rfl) ?_
          refine lv_aload_n hx hb dX12_layWritten_22 rfl (lv_at hl 0 rfl) ?_
          refine va_get (D := D) (ci := 12) (v := .int (f21 1)) (C := RX12) (T := TX12) (N := 31) hx hb hts hiX12 hown hK hP 0 rfl rfl 1 (by decide) hf83 (fun _ h9 => h9) rfl dX12_layWritten_23 ?_
          refine lv_icmp_ge (tgt := 68) hx hb dX12_layWritten_26 (by decide) (fun hc3 => ?_) (fun hc3 => ?_)
          · have hF := it_p hc3 hF
            obtain ⟨r, hF1, hr0⟩ := mp_s hF
            clear hF
            subst hr0
            have hF := hF1
            clear hF1
            have hp : (lpK (fun q2 : (Int32 × ST) => B_X12_layWritten_2 q2.2.1 q2.2.2.1 q2.2.2.2 q2.1) n2 (fun r => r = out)) r := hp
            refine lv_iinc (v := (x1_21 + 1)) (lv' := [(1, .int (x1_21 + 1)), (0, .ref (ad 0)), (2, .int x2_21)]) hx hb dX12_layWritten_68 hl (k := 1) rfl rfl (by decide) rfl (fun ls hl => ?_)
            refine lv_goto (tgt := 2) hx hb dX12_layWritten_71 (by decide) ?_
            have hF := Option.some.inj hF
            subst hF
            obtain ⟨r, hF, hp⟩ := hp
            exact ih2 f21 g21 a21 _ _ (x1_21 + 1) ls hP hD hS (lv_sub hl [1, 0] rfl) r hF hp
          · have hF := it_n hc3 hF
            refine lv_aload_n hx hb dX12_layWritten_29 rfl (lv_at hl 0 rfl) ?_
            refine va_get (D := D) (ci := 12) (v := .ref (ad 16)) (C := RX12) (T := TX12) (N := 31) hx hb hts hiX12 hown hK hP 0 rfl rfl 16 (by decide) hf35 (fun _ h9 => h9) rfl dX12_layWritten_30 ?_
            refine lv_iload_n hx hb dX12_layWritten_33 rfl (lv_at hl 1 rfl) ?_
            refine lv_dup2_11 hx hb dX12_layWritten_34 rfl rfl ?_
            obtain ⟨hg4, hF⟩ := gd_s hF
            refine va_iald hx hb hK hP 9 8 rfl rfl (inB_in hg4) dX12_layWritten_35 ?_
            refine lv_iload_n hx hb dX12_layWritten_36 rfl (lv_at hl 1 rfl) ?_
            refine lv_iload_n hx hb dX12_layWritten_37 rfl (lv_at hl 2 rfl) ?_
            refine kS_b (va_runS (As := [.int x1_21, .int x2_21]) (rest := [.int (a21 16 x1_21.toNatClampNeg), .int x1_21, .ref (ad 16)]) ⟨hx, hb, hml, hown, hts⟩ (c_X12_isIn l hz D (tM ck) x1_21 x2_21) (va_cwS 2 hts gX12_layWritten_X12_isIn rfl rfl rfl pX12_isIn ⟨Nat.le_of_ble_eq_true rfl, Nat.le_of_ble_eq_true rfl⟩) (kR.preS kP_nil (hE.kept hS hnA)) rfl rfl hl.1 rfl (lv_room (Nat.le_of_ble_eq_true rfl)) dX12_layWritten_38 ⟨Nat.le_refl _, Nat.le_refl _⟩) (fun hz5 => ?_)
            refine lv_if_eq (tgt := 59) hx hb dX12_layWritten_41 (by decide) (fun hc6 => ?_) (fun hc6 => ?_)
            · have hF := it_p hc6 hF
              exact hN_59 f21 g21 a21 _ _ x2_21 (a21 16 x1_21.toNatClampNeg) x1_21 ls hP hD hS (lv_sub hl [0, 1, 2] rfl) _ hF hp
            · have hF := it_n hc6 hF
              refine lv_aload_n hx hb dX12_layWritten_44 rfl (lv_at hl 0 rfl) ?_
              refine lv_iload_n hx hb dX12_layWritten_45 rfl (lv_at hl 2 rfl) ?_
              refine lv_iload_n hx hb dX12_layWritten_46 rfl (lv_at hl 1 rfl) ?_
              obtain ⟨r8, he8, hF⟩ := bd_s hF
              refine kS_b (va_runV (As := [.int x2_21, .int x1_21]) (rest := [.int (a21 16 x1_21.toNatClampNeg), .int x1_21, .ref (ad 16)]) ⟨hx, hb, hml, hown, hts⟩ (c_X12_isWritten l hz D ad ck f21 g21 a21 x2_21 x1_21 r8 he8) (cwV 2 hts gX12_layWritten_X12_isWritten rfl rfl rfl ⟨rfl, pX12_isWritten⟩ ⟨Nat.le_of_ble_eq_true rfl, Nat.le_of_ble_eq_true rfl⟩) (kR.preV (va_recv hK hP (ci := 12) (q0 := 0) rfl rfl) hP (hE.kept hS hnA)) rfl rfl hl.1 rfl (lv_room (Nat.le_of_ble_eq_true rfl)) dX12_layWritten_47 ⟨Nat.le_refl _, Nat.le_refl _⟩) (fun hz9 => ?_)
              refine lv_if_eq (tgt := 59) hx hb dX12_layWritten_50 (by decide) (fun hc10 => ?_) (fun hc10 => ?_)
              · have hF := it_p hc10 hF
                exact hN_59 f21 g21 a21 _ _ x2_21 (a21 16 x1_21.toNatClampNeg) x1_21 ls hP hD hS (lv_sub hl [0, 1, 2] rfl) _ hF hp
              · have hF := it_n hc10 hF
                refine lv_iconst (v := 1) hx hb dX12_layWritten_53 (by decide) ?_
                refine lv_iload_n hx hb dX12_layWritten_54 rfl (lv_at hl 2 rfl) ?_
                refine lv_ishl hx hb dX12_layWritten_55 ?_
                refine lv_goto (tgt := 60) hx hb dX12_layWritten_56 (by decide) ?_
                exact hN_60 f21 g21 a21 _ _ x2_21 ((1 : Int32) <<< (x2_21 &&& 31)) (a21 16 x1_21.toNatClampNeg) x1_21 ls hP hD hS (lv_sub hl [0, 1, 2] rfl) _ hF hp
      unfold B_X12_layWritten_2 at hF
      refine lv_iload_n hx hb dX12_layWritten_2 rfl (lv_at hl 1 rfl) ?_
      refine lv_iconst (v := 1) hx hb dX12_layWritten_3 (by decide) ?_
      refine lv_aload_n hx hb dX12_layWritten_4 rfl (lv_at hl 0 rfl) ?_
      refine va_get (D := D) (ci := 12) (v := .int (f2 1)) (C := RX12) (T := TX12) (N := 31) hx hb hts hiX12 hown hK hP 0 rfl rfl 1 (by decide) hf83 (fun _ h9 => h9) rfl dX12_layWritten_5 ?_
      refine lv_ishl hx hb dX12_layWritten_8 ?_
      refine lv_icmp_ge (tgt := 74) hx hb dX12_layWritten_9 (by decide) (fun hc1 => ?_) (fun hc1 => ?_)
      · have hF := it_p hc1 hF
        obtain ⟨r, hF1, hr0⟩ := mp_s hF
        clear hF
        subst hr0
        have hF := hF1
        clear hF1
        have hp : (fun r => r = out) r := hp
        have hF := (Option.some.inj hF).trans hp
        subst hF
        exact W.vret hx hb hr (fun t ht hW => ⟨rfl, by rw [ht]; exact hP, hS.F ht⟩) hS.2.2 dX12_layWritten_74
      · have hF := it_n hc1 hF
        refine lv_aload_n hx hb dX12_layWritten_12 rfl (lv_at hl 0 rfl) ?_
        refine va_get (D := D) (ci := 12) (v := .ref (ad 16)) (C := RX12) (T := TX12) (N := 31) hx hb hts hiX12 hown hK hP 0 rfl rfl 16 (by decide) hf35 (fun _ h9 => h9) rfl dX12_layWritten_13 ?_
        refine lv_iload_n hx hb dX12_layWritten_16 rfl (lv_at hl 1 rfl) ?_
        refine lv_iconst (v := 0) hx hb dX12_layWritten_17 (by decide) ?_
        obtain ⟨hg2, hF⟩ := gd_s hF
        refine va_iast hx hb hK hP hD hS 9 8 rfl rfl (inB_in hg2) dX12_layWritten_18 (fun H locs hP hD hS => ?_)
        have hP := kPe (eu_wM16 ad ck f2 g2 a2 x1_2.toNatClampNeg 0) hP
        have hD := kDe (eu_wM16 ad ck f2 g2 a2 x1_2.toNatClampNeg 0) hD
        refine lv_iconst (v := 0) hx hb dX12_layWritten_19 (by decide) ?_
        refine lv_istore_n (lv' := [(2, .int 0), (0, .ref (ad 0)), (1, .int x1_2)]) hx hb dX12_layWritten_20 rfl hl (by decide) rfl (fun ls hl => ?_)
        exact hN_21 x1_2 kFu f2 g2 (ua a2 16 x1_2.toNatClampNeg 0) _ _ 0 ls hP hD hS (lv_sub hl [1, 2, 0] rfl) _ hF hp
  have hl := lv_entry ([.ref (ad 0)]) (n := 3) (Nat.le_of_ble_eq_true rfl)
  rw [lg_entry_eq]
  generalize (lg_sl ([.ref (ad 0)]) ++ List.replicate (3 - (lg_sl ([.ref (ad 0)])).length) Slot.unset).toArray = ls at hl ⊢
  have hl : lv_has ls 3 [(0, .ref (ad 0))] := hl
  obtain ⟨r, hF, hp⟩ : ∃ r, F_X12_layWritten f0 g0 a0 = some r ∧ r = out := ⟨out, hF, rfl⟩
  unfold F_X12_layWritten at hF
  refine lv_iconst (v := 0) hx hb dX12_layWritten_0 (by decide) ?_
  refine lv_istore_n (lv' := [(1, .int 0), (0, .ref (ad 0))]) hx hb dX12_layWritten_1 rfl hl (by decide) rfl (fun ls hl => ?_)
  exact hN_2 kFu f0 g0 a0 _ _ 0 ls hP hD hS (lv_sub hl [1, 0] rfl) _ hF hp

def B_X12_writtenBy_10 (f0 : Nat → Int32) (g0 : Nat → Int64) (a0 : Nat → Nat → Int32) (x2_10 : Int32) (x3_10 : Int32) (x4_10 : Int32) (x5_10 : Int32) : Option ((Int32 × Int32 × Int32) ⊕ Int32) := if x5_10 < 0 then Option.map Sum.inr (some x3_10) else if ((1 : Int32) <<< ((f0 1) &&& 31)) ≤ ((x2_10 >>> (((5 : Int32) * x5_10) &&& 31)) &&& (31 : Int32)) then Option.map Sum.inr (some 0) else if x4_10 ≤ ((x2_10 >>> (((5 : Int32) * x5_10) &&& 31)) &&& (31 : Int32)) then gd (inB ((x2_10 >>> (((5 : Int32) * x5_10) &&& 31)) &&& (31 : Int32)) 32) (some (.inl ((x3_10 ||| (a0 16 ((x2_10 >>> (((5 : Int32) * x5_10) &&& 31)) &&& (31 : Int32)).toNatClampNeg)), ((x2_10 >>> (((5 : Int32) * x5_10) &&& 31)) &&& (31 : Int32)), (x5_10 + (-1))))) else Option.map Sum.inr (some 0)
def N_X12_writtenBy_10 (f0 : Nat → Int32) (g0 : Nat → Int64) (a0 : Nat → Nat → Int32) (x2_10 : Int32) (x3_10 : Int32) (x4_10 : Int32) (x5_10 : Int32) : Option Int32 := lpN (fun q10 : (Int32 × Int32 × Int32) => B_X12_writtenBy_10 f0 g0 a0 x2_10 q10.1 q10.2.1 q10.2.2) kFu (x3_10, x4_10, x5_10)
def F_X12_writtenBy (f0 : Nat → Int32) (g0 : Nat → Int64) (a0 : Nat → Nat → Int32) (p1 : Int32) (p2 : Int32) : Option Int32 := N_X12_writtenBy_10 f0 g0 a0 p2 0 0 (p1 - (1 : Int32))
set_option maxHeartbeats 4000000 in
set_option maxRecDepth 100000 in
theorem c_X12_writtenBy (l : Launch) (hz : Nat) (D : va_G) (ad : Nat → Nat) (ck : Nat → ClassId) (f0 : Nat → Int32) (g0 : Nat → Int64) (a0 : Nat → Nat → Int32) (p1 : Int32) (p2 : Int32) (out : Int32) (hF : F_X12_writtenBy f0 g0 a0 p1 p2 = some out) : Met l yX12_writtenBy wsX12_writtenBy ({ frames := 0, cells := 0, slots := 0, locals := 0 }) (kR hz D vwCl (tM ck) (wM ad ck f0 g0 a0) [.ref (ad 0), .int p1, .int p2]) (kZi out) 0 0 (fun _ => False) := by
  refine Met.ofW (cc := cX12_writtenBy) (maxL := 7) (ret := (some .int)) (by decide) rfl ?_
  intro p e s m args below meth c s₁ B hml hv
  obtain ⟨rfl, hP, hE⟩ := hv
  have hx := B.exec
  have hb := B.bytes
  have hr := B.returns
  have hts := atoms_spec (ws := wsX12_writtenBy) B.pre
  have hown : s.vm.findClass RX12 = some m.cls := findClass_of_methodNamed B.named
  have hlocks := B.notSynchronized
  have hK := hE.1
  have hiX12 : ∀ w ∈ u_ws RX12 TX12 31, w ∈ wsX12_writtenBy := by decide +kernel
  have hf35 := hts (.fieldLink RX12 35 "SpeltByFriendsModel" "writtenIn" "[I") (by decide +kernel)
  have hf83 := hts (.fieldLink RX12 83 "SpeltByFriendsModel" "people" "I") (by decide +kernel)
  have hN_10 : ∀ (x2_10 : Int32) (n10 : Nat) (x3_10 : Int32) (x4_10 : Int32) (x5_10 : Int32) (ls : Array Slot), lv_has ls 7 [(0, .ref (ad 0)), (2, .int x2_10), (3, .int x3_10), (4, .int x4_10), (5, .int x5_10)] → ∀ r : Int32, lpN (fun q10 : (Int32 × Int32 × Int32) => B_X12_writtenBy_10 f0 g0 a0 x2_10 q10.1 q10.2.1 q10.2.2) n10 (x3_10, x4_10, x5_10) = some r → (fun r => r = out) r → W p l e (headSpec wsX12_writtenBy ({ frames := 0, cells := 0, slots := 0, locals := 0 })).room s m [.ref (ad 0), .int p1, .int p2].toArray below meth c s.heap [] 0 0 (MQ below (kZi out) [.ref (ad 0), .int p1, .int p2].toArray s 0 0 (fun _ => False)) (F0 m 10 ls []) := by
    intro x2_10 n10
    induction n10 with
    | zero => intro x3_10 x4_10 x5_10 ls hl r hF hp; exact (lp_z hF).elim
    | succ n10 ih10 =>
      intro x3_10 x4_10 x5_10 ls hl r hF hp
      obtain ⟨rs, hF, hp⟩ := lpN_K (P := (fun r => r = out)) hF hp
      unfold B_X12_writtenBy_10 at hF
      refine lv_iload hx hb dX12_writtenBy_10 (lv_at hl 4 rfl) ?_
      refine lv_if_lt (tgt := 66) hx hb dX12_writtenBy_12 (by decide) (fun hc1 => ?_) (fun hc1 => ?_)
      · have hF := it_p hc1 hF
        obtain ⟨r, hF1, hr0⟩ := mp_s hF
        clear hF
        subst hr0
        have hF := hF1
        clear hF1
        have hp : (fun r => r = out) r := hp
        refine lv_iload_n hx hb dX12_writtenBy_66 rfl (lv_at hl 2 rfl) ?_
        exact W.iret hx hb hr (fun t ht hW => ⟨_, rfl, (Option.some.inj hF).trans hp, ht⟩) (fun q hq => by cases hq) dX12_writtenBy_67
      · have hF := it_n hc1 hF
        refine lv_iload_n hx hb dX12_writtenBy_15 rfl (lv_at hl 1 rfl) ?_
        refine lv_iconst (v := 5) hx hb dX12_writtenBy_16 (by decide) ?_
        refine lv_iload hx hb dX12_writtenBy_17 (lv_at hl 4 rfl) ?_
        refine lv_imul hx hb dX12_writtenBy_19 ?_
        refine lv_ishr hx hb dX12_writtenBy_20 ?_
        refine lv_bipush (v := 31) hx hb dX12_writtenBy_21 (by decide) ?_
        refine lv_iand hx hb dX12_writtenBy_23 ?_
        refine lv_istore (lv' := [(6, .int ((x2_10 >>> (((5 : Int32) * x5_10) &&& 31)) &&& (31 : Int32))), (0, .ref (ad 0)), (2, .int x2_10), (3, .int x3_10), (4, .int x4_10), (5, .int x5_10)]) hx hb dX12_writtenBy_24 hl (by decide) rfl (fun ls hl => ?_)
        refine lv_iload hx hb dX12_writtenBy_26 (lv_at hl 0 rfl) ?_
        refine lv_iconst (v := 1) hx hb dX12_writtenBy_28 (by decide) ?_
        refine lv_aload_n hx hb dX12_writtenBy_29 rfl (lv_at hl 1 rfl) ?_
        refine va_get (D := D) (ci := 12) (v := .int (f0 1)) (C := RX12) (T := TX12) (N := 31) hx hb hts hiX12 hown hK hP 0 rfl rfl 1 (by decide) hf83 (fun _ h9 => h9) rfl dX12_writtenBy_30 ?_
        refine lv_ishl hx hb dX12_writtenBy_33 ?_
        refine lv_icmp_ge (tgt := 44) hx hb dX12_writtenBy_34 (by decide) (fun hc2 => ?_) (fun hc2 => ?_)
        · have hF := it_p hc2 hF
          obtain ⟨r, hF1, hr0⟩ := mp_s hF
          clear hF
          subst hr0
          have hF := hF1
          clear hF1
          have hp : (fun r => r = out) r := hp
          refine lv_iconst (v := 0) hx hb dX12_writtenBy_44 (by decide) ?_
          exact W.iret hx hb hr (fun t ht hW => ⟨_, rfl, (Option.some.inj hF).trans hp, ht⟩) (fun q hq => by cases hq) dX12_writtenBy_45
        · have hF := it_n hc2 hF
          refine lv_iload hx hb dX12_writtenBy_37 (lv_at hl 0 rfl) ?_
          refine lv_iload hx hb dX12_writtenBy_39 (lv_at hl 4 rfl) ?_
          refine lv_icmp_ge (tgt := 46) hx hb dX12_writtenBy_41 (by decide) (fun hc3 => ?_) (fun hc3 => ?_)
          · have hF := it_p hc3 hF
            refine lv_iload_n hx hb dX12_writtenBy_46 rfl (lv_at hl 3 rfl) ?_
            refine lv_aload_n hx hb dX12_writtenBy_47 rfl (lv_at hl 1 rfl) ?_
            refine va_get (D := D) (ci := 12) (v := .ref (ad 16)) (C := RX12) (T := TX12) (N := 31) hx hb hts hiX12 hown hK hP 0 rfl rfl 16 (by decide) hf35 (fun _ h9 => h9) rfl dX12_writtenBy_48 ?_
            refine lv_iload hx hb dX12_writtenBy_51 (lv_at hl 0 rfl) ?_
            obtain ⟨hg4, hF⟩ := gd_s hF
            refine va_iald hx hb hK hP 9 8 rfl rfl (inB_in hg4) dX12_writtenBy_53 ?_
            refine lv_ior hx hb dX12_writtenBy_54 ?_
            refine lv_istore_n (lv' := [(3, .int (x3_10 ||| (a0 16 ((x2_10 >>> (((5 : Int32) * x5_10) &&& 31)) &&& (31 : Int32)).toNatClampNeg))), (6, .int ((x2_10 >>> (((5 : Int32) * x5_10) &&& 31)) &&& (31 : Int32))), (0, .ref (ad 0)), (2, .int x2_10), (4, .int x4_10), (5, .int x5_10)]) hx hb dX12_writtenBy_55 rfl hl (by decide) rfl (fun ls hl => ?_)
            refine lv_iload hx hb dX12_writtenBy_56 (lv_at hl 1 rfl) ?_
            refine lv_istore (lv' := [(4, .int ((x2_10 >>> (((5 : Int32) * x5_10) &&& 31)) &&& (31 : Int32))), (3, .int (x3_10 ||| (a0 16 ((x2_10 >>> (((5 : Int32) * x5_10) &&& 31)) &&& (31 : Int32)).toNatClampNeg))), (6, .int ((x2_10 >>> (((5 : Int32) * x5_10) &&& 31)) &&& (31 : Int32))), (0, .ref (ad 0)), (2, .int x2_10), (5, .int x5_10)]) hx hb dX12_writtenBy_58 hl (by decide) rfl (fun ls hl => ?_)
            refine lv_iinc (v := (x5_10 + (-1))) (lv' := [(5, .int (x5_10 + (-1))), (4, .int ((x2_10 >>> (((5 : Int32) * x5_10) &&& 31)) &&& (31 : Int32))), (3, .int (x3_10 ||| (a0 16 ((x2_10 >>> (((5 : Int32) * x5_10) &&& 31)) &&& (31 : Int32)).toNatClampNeg))), (6, .int ((x2_10 >>> (((5 : Int32) * x5_10) &&& 31)) &&& (31 : Int32))), (0, .ref (ad 0)), (2, .int x2_10)]) hx hb dX12_writtenBy_60 hl (k := 5) rfl rfl (by decide) rfl (fun ls hl => ?_)
            refine lv_goto (tgt := 10) hx hb dX12_writtenBy_63 (by decide) ?_
            have hF := Option.some.inj hF
            subst hF
            obtain ⟨r, hF, hp⟩ := hp
            exact ih10 (x3_10 ||| (a0 16 ((x2_10 >>> (((5 : Int32) * x5_10) &&& 31)) &&& (31 : Int32)).toNatClampNeg)) ((x2_10 >>> (((5 : Int32) * x5_10) &&& 31)) &&& (31 : Int32)) (x5_10 + (-1)) ls (lv_sub hl [4, 5, 2, 1, 0] rfl) r hF hp
          · have hF := it_n hc3 hF
            obtain ⟨r, hF1, hr0⟩ := mp_s hF
            clear hF
            subst hr0
            have hF := hF1
            clear hF1
            have hp : (fun r => r = out) r := hp
            refine lv_iconst (v := 0) hx hb dX12_writtenBy_44 (by decide) ?_
            exact W.iret hx hb hr (fun t ht hW => ⟨_, rfl, (Option.some.inj hF).trans hp, ht⟩) (fun q hq => by cases hq) dX12_writtenBy_45
  have hl := lv_entry ([.ref (ad 0), .int p1, .int p2]) (n := 7) (Nat.le_of_ble_eq_true rfl)
  rw [lg_entry_eq]
  generalize (lg_sl ([.ref (ad 0), .int p1, .int p2]) ++ List.replicate (7 - (lg_sl ([.ref (ad 0), .int p1, .int p2])).length) Slot.unset).toArray = ls at hl ⊢
  have hl : lv_has ls 7 [(0, .ref (ad 0)), (1, .int p1), (2, .int p2)] := hl
  obtain ⟨r, hF, hp⟩ : ∃ r, F_X12_writtenBy f0 g0 a0 p1 p2 = some r ∧ r = out := ⟨out, hF, rfl⟩
  unfold F_X12_writtenBy at hF
  refine lv_iconst (v := 0) hx hb dX12_writtenBy_0 (by decide) ?_
  refine lv_istore_n (lv' := [(3, .int 0), (0, .ref (ad 0)), (1, .int p1), (2, .int p2)]) hx hb dX12_writtenBy_1 rfl hl (by decide) rfl (fun ls hl => ?_)
  refine lv_iconst (v := 0) hx hb dX12_writtenBy_2 (by decide) ?_
  refine lv_istore (lv' := [(4, .int 0), (3, .int 0), (0, .ref (ad 0)), (1, .int p1), (2, .int p2)]) hx hb dX12_writtenBy_3 hl (by decide) rfl (fun ls hl => ?_)
  refine lv_iload_n hx hb dX12_writtenBy_5 rfl (lv_at hl 3 rfl) ?_
  refine lv_iconst (v := 1) hx hb dX12_writtenBy_6 (by decide) ?_
  refine lv_isub hx hb dX12_writtenBy_7 ?_
  refine lv_istore (lv' := [(5, .int (p1 - (1 : Int32))), (4, .int 0), (3, .int 0), (0, .ref (ad 0)), (1, .int p1), (2, .int p2)]) hx hb dX12_writtenBy_8 hl (by decide) rfl (fun ls hl => ?_)
  exact hN_10 p2 kFu 0 0 (p1 - (1 : Int32)) ls (lv_sub hl [3, 5, 2, 1, 0] rfl) _ hF hp

def B_X12_daysNow_28 (f28 : Nat → Int32) (g28 : Nat → Int64) (a28 : Nat → Nat → Int32) (x1_20 : Int32) (x2_20 : Int32) (x3_28 : Int32) (x4_28 : Int32) : Option ((Int32 × ST) ⊕ ((Int32 × ST) ⊕ (Int32 × ST))) := if ((1 : Int32) <<< (((5 : Int32) * x3_28) &&& 31)) ≤ x4_28 then Option.map Sum.inr (some (.inl ((x3_28 + 1), f28, g28, a28))) else (F_X12_writtenBy f28 g28 a28 x3_28 x4_28).bind fun r5 => if (r5 &&& x1_20) = x1_20 then Option.map Sum.inr (Option.map Sum.inr (if x2_20 = 0 then some (x3_28, f28, g28, a28) else if x3_28 ≤ (x2_20 - (10 : Int32)) then some ((-1), f28, g28, a28) else some (((x4_28 >>> (((5 : Int32) * ((x3_28 - (1 : Int32)) - (x2_20 - (10 : Int32)))) &&& 31)) &&& (31 : Int32)), f28, g28, a28))) else some (.inl ((x4_28 + 1), f28, g28, a28))
def N_X12_daysNow_28 (f28 : Nat → Int32) (g28 : Nat → Int64) (a28 : Nat → Nat → Int32) (x1_20 : Int32) (x2_20 : Int32) (x3_28 : Int32) (x4_28 : Int32) : Option ((Int32 × ST) ⊕ (Int32 × ST)) := lpN (fun q28 : (Int32 × ST) => B_X12_daysNow_28 q28.2.1 q28.2.2.1 q28.2.2.2 x1_20 x2_20 x3_28 q28.1) kFu (x4_28, f28, g28, a28)
def B_X12_daysNow_20 (f20 : Nat → Int32) (g20 : Nat → Int64) (a20 : Nat → Nat → Int32) (x1_20 : Int32) (x2_20 : Int32) (x3_20 : Int32) : Option ((Int32 × ST) ⊕ (Int32 × ST)) := if 3 < x3_20 then Option.map Sum.inr (some ((-1), f20, g20, a20)) else N_X12_daysNow_28 f20 g20 a20 x1_20 x2_20 x3_20 0
def N_X12_daysNow_20 (f20 : Nat → Int32) (g20 : Nat → Int64) (a20 : Nat → Nat → Int32) (x1_20 : Int32) (x2_20 : Int32) (x3_20 : Int32) : Option (Int32 × ST) := lpN (fun q20 : (Int32 × ST) => B_X12_daysNow_20 q20.2.1 q20.2.2.1 q20.2.2.2 x1_20 x2_20 q20.1) kFu (x3_20, f20, g20, a20)
def F_X12_daysNow (f0 : Nat → Int32) (g0 : Nat → Int64) (a0 : Nat → Nat → Int32) (p1 : Int32) (p2 : Int32) : Option (Int32 × ST) := if p1 = 0 then if p2 = 0 then some (0, f0, g0, a0) else some ((-1), f0, g0, a0) else (F_X12_layWritten f0 g0 a0).bind fun r2 => N_X12_daysNow_20 r2.1 r2.2.1 r2.2.2 p1 p2 1
set_option maxHeartbeats 4000000 in
set_option maxRecDepth 100000 in
theorem c_X12_daysNow (l : Launch) (hz : Nat) (D : va_G) (ad : Nat → Nat) (ck : Nat → ClassId) (f0 : Nat → Int32) (g0 : Nat → Int64) (a0 : Nat → Nat → Int32) (p1 : Int32) (p2 : Int32) (out : (Int32 × ST)) (hF : F_X12_daysNow f0 g0 a0 p1 p2 = some out) : Met l yX12_daysNow wsX12_daysNow ({ frames := 5, cells := 0, slots := 0, locals := 114 }) (kW hz D vwCl (tM ck) (wM ad ck f0 g0 a0) [.ref (ad 0), .int p1, .int p2]) (kQ D vwCl (some (.int out.1)) (wM ad ck f0 g0 a0) (wM ad ck out.2.1 out.2.2.1 out.2.2.2)) 0 0 (kAd (wM ad ck f0 g0 a0)) := by
  refine Met.ofW (cc := cX12_daysNow) (maxL := 5) (ret := (some .int)) (by decide) rfl ?_
  intro p e s m args below meth c s₁ B hml hv
  obtain ⟨rfl, hP, hE, hD0⟩ := hv
  have hx := B.exec
  have hb := B.bytes
  have hr := B.returns
  have hts := atoms_spec (ws := wsX12_daysNow) B.pre
  have hown : s.vm.findClass RX12 = some m.cls := findClass_of_methodNamed B.named
  have hlocks := B.notSynchronized
  have hK := hE.1
  have hnA := kAd_up hD0
  have hD := kD_self hD0
  have hS : va_S (kAd (wM ad ck f0 g0 a0)) s.heap s.heap [] := va_S.rf
  have hN_20 : ∀ (x1_20 : Int32) (x2_20 : Int32) (n20 : Nat) (f20 : Nat → Int32) (g20 : Nat → Int64) (a20 : Nat → Nat → Int32) (H : Heap) (locs : List Loc) (x3_20 : Int32) (ls : Array Slot), va_P D vwCl (wM ad ck f20 g20 a20) H → va_D (kAd (wM ad ck f0 g0 a0)) (wM ad ck f20 g20 a20) → va_S (kAd (wM ad ck f0 g0 a0)) s.heap H locs → lv_has ls 5 [(0, .ref (ad 0)), (1, .int x1_20), (2, .int x2_20), (3, .int x3_20)] → ∀ r : (Int32 × ST), lpN (fun q20 : (Int32 × ST) => B_X12_daysNow_20 q20.2.1 q20.2.2.1 q20.2.2.2 x1_20 x2_20 q20.1) n20 (x3_20, f20, g20, a20) = some r → (fun r => r = out) r → W p l e (headSpec wsX12_daysNow ({ frames := 5, cells := 0, slots := 0, locals := 114 })).room s m [.ref (ad 0), .int p1, .int p2].toArray below meth c H locs 0 0 (MQ below (kQ D vwCl (some (.int out.1)) (wM ad ck f0 g0 a0) (wM ad ck out.2.1 out.2.2.1 out.2.2.2)) [.ref (ad 0), .int p1, .int p2].toArray s 0 0 (kAd (wM ad ck f0 g0 a0))) (F0 m 20 ls []) := by
    intro x1_20 x2_20 n20
    induction n20 with
    | zero => intro f20 g20 a20 H locs x3_20 ls hP hD hS hl r hF hp; exact (lp_z hF).elim
    | succ n20 ih20 =>
      intro f20 g20 a20 H locs x3_20 ls hP hD hS hl r hF hp
      obtain ⟨rs, hF, hp⟩ := lpN_K (P := (fun r => r = out)) hF hp
      have hN_28 : ∀ (x3_28 : Int32) (n28 : Nat) (f28 : Nat → Int32) (g28 : Nat → Int64) (a28 : Nat → Nat → Int32) (H : Heap) (locs : List Loc) (x4_28 : Int32) (ls : Array Slot), va_P D vwCl (wM ad ck f28 g28 a28) H → va_D (kAd (wM ad ck f0 g0 a0)) (wM ad ck f28 g28 a28) → va_S (kAd (wM ad ck f0 g0 a0)) s.heap H locs → lv_has ls 5 [(0, .ref (ad 0)), (1, .int x1_20), (2, .int x2_20), (3, .int x3_28), (4, .int x4_28)] → ∀ r : ((Int32 × ST) ⊕ (Int32 × ST)), lpN (fun q28 : (Int32 × ST) => B_X12_daysNow_28 q28.2.1 q28.2.2.1 q28.2.2.2 x1_20 x2_20 x3_28 q28.1) n28 (x4_28, f28, g28, a28) = some r → (lpK (fun q20 : (Int32 × ST) => B_X12_daysNow_20 q20.2.1 q20.2.2.1 q20.2.2.2 x1_20 x2_20 q20.1) n20 (fun r => r = out)) r → W p l e (headSpec wsX12_daysNow ({ frames := 5, cells := 0, slots := 0, locals := 114 })).room s m [.ref (ad 0), .int p1, .int p2].toArray below meth c H locs 0 0 (MQ below (kQ D vwCl (some (.int out.1)) (wM ad ck f0 g0 a0) (wM ad ck out.2.1 out.2.2.1 out.2.2.2)) [.ref (ad 0), .int p1, .int p2].toArray s 0 0 (kAd (wM ad ck f0 g0 a0))) (F0 m 28 ls []) := by
        intro x3_28 n28
        induction n28 with
        | zero => intro f28 g28 a28 H locs x4_28 ls hP hD hS hl r hF hp; exact (lp_z hF).elim
        | succ n28 ih28 =>
          intro f28 g28 a28 H locs x4_28 ls hP hD hS hl r hF hp
          obtain ⟨rs, hF, hp⟩ := lpN_K (P := (lpK (fun q20 : (Int32 × ST) => B_X12_daysNow_20 q20.2.1 q20.2.2.1 q20.2.2.2 x1_20 x2_20 q20.1) n20 (fun r => r = out))) hF hp
          unfold B_X12_daysNow_28 at hF
          refine lv_iload hx hb dX12_daysNow_28 (lv_at hl 4 rfl) ?_
          refine lv_iconst (v := 1) hx hb dX12_daysNow_30 (by decide) ?_
          refine lv_iconst (v := 5) hx hb dX12_daysNow_31 (by decide) ?_
          refine lv_iload_n hx hb dX12_daysNow_32 rfl (lv_at hl 3 rfl) ?_
          refine lv_imul hx hb dX12_daysNow_33 ?_
          refine lv_ishl hx hb dX12_daysNow_34 ?_
          refine lv_icmp_ge (tgt := 94) hx hb dX12_daysNow_35 (by decide) (fun hc4 => ?_) (fun hc4 => ?_)
          · have hF := it_p hc4 hF
            obtain ⟨r, hF1, hr0⟩ := mp_s hF
            clear hF
            subst hr0
            have hF := hF1
            clear hF1
            have hp : (lpK (fun q20 : (Int32 × ST) => B_X12_daysNow_20 q20.2.1 q20.2.2.1 q20.2.2.2 x1_20 x2_20 q20.1) n20 (fun r => r = out)) r := hp
            refine lv_iinc (v := (x3_28 + 1)) (lv' := [(3, .int (x3_28 + 1)), (0, .ref (ad 0)), (1, .int x1_20), (2, .int x2_20), (4, .int x4_28)]) hx hb dX12_daysNow_94 hl (k := 3) rfl rfl (by decide) rfl (fun ls hl => ?_)
            refine lv_goto (tgt := 20) hx hb dX12_daysNow_97 (by decide) ?_
            have hF := Option.some.inj hF
            subst hF
            obtain ⟨r, hF, hp⟩ := hp
            exact ih20 f28 g28 a28 _ _ (x3_28 + 1) ls hP hD hS (lv_sub hl [1, 2, 3, 0] rfl) r hF hp
          · have hF := it_n hc4 hF
            refine lv_aload_n hx hb dX12_daysNow_38 rfl (lv_at hl 0 rfl) ?_
            refine lv_iload_n hx hb dX12_daysNow_39 rfl (lv_at hl 3 rfl) ?_
            refine lv_iload hx hb dX12_daysNow_40 (lv_at hl 4 rfl) ?_
            obtain ⟨r5, he5, hF⟩ := bd_s hF
            refine kS_i (va_runV (As := [.int x3_28, .int x4_28]) (rest := []) ⟨hx, hb, hml, hown, hts⟩ (c_X12_writtenBy l hz D ad ck f28 g28 a28 x3_28 x4_28 r5 he5) (cwV 2 hts gX12_daysNow_X12_writtenBy rfl rfl rfl ⟨rfl, pX12_writtenBy⟩ ⟨Nat.le_of_ble_eq_true rfl, Nat.le_of_ble_eq_true rfl⟩) (kR.preV (va_recv hK hP (ci := 12) (q0 := 0) rfl rfl) hP (hE.kept hS hnA)) rfl rfl hl.1 rfl (lv_room (Nat.le_of_ble_eq_true rfl)) dX12_daysNow_42 ⟨Nat.le_refl _, Nat.le_refl _⟩) ?_
            refine lv_iload_n hx hb dX12_daysNow_45 rfl (lv_at hl 1 rfl) ?_
            refine lv_iand hx hb dX12_daysNow_46 ?_
            refine lv_iload_n hx hb dX12_daysNow_47 rfl (lv_at hl 1 rfl) ?_
            refine lv_icmp_ne (tgt := 88) hx hb dX12_daysNow_48 (by decide) (fun hc6 => ?_) (fun hc6 => ?_)
            · have hF := it_n hc6 hF
              refine lv_iinc (v := (x4_28 + 1)) (lv' := [(4, .int (x4_28 + 1)), (0, .ref (ad 0)), (1, .int x1_20), (2, .int x2_20), (3, .int x3_28)]) hx hb dX12_daysNow_88 hl (k := 4) rfl rfl (by decide) rfl (fun ls hl => ?_)
              refine lv_goto (tgt := 28) hx hb dX12_daysNow_91 (by decide) ?_
              have hF := Option.some.inj hF
              subst hF
              obtain ⟨r, hF, hp⟩ := hp
              exact ih28 f28 g28 a28 _ _ (x4_28 + 1) ls hP hD hS (lv_sub hl [1, 2, 3, 4, 0] rfl) r hF hp
            · have hF := it_p hc6 hF
              obtain ⟨r, hF1, hr0⟩ := mp_s hF
              clear hF
              subst hr0
              have hF := hF1
              clear hF1
              have hp : (lpK (fun q20 : (Int32 × ST) => B_X12_daysNow_20 q20.2.1 q20.2.2.1 q20.2.2.2 x1_20 x2_20 q20.1) n20 (fun r => r = out)) r := hp
              obtain ⟨r, hF1, hr0⟩ := mp_s hF
              clear hF
              subst hr0
              have hF := hF1
              clear hF1
              have hp : (fun r => r = out) r := hp
              refine lv_iload_n hx hb dX12_daysNow_51 rfl (lv_at hl 2 rfl) ?_
              refine lv_if_ne (tgt := 59) hx hb dX12_daysNow_52 (by decide) (fun hc7 => ?_) (fun hc7 => ?_)
              · have hF := it_n hc7 hF
                refine lv_iload_n hx hb dX12_daysNow_59 rfl (lv_at hl 2 rfl) ?_
                refine lv_bipush (v := 10) hx hb dX12_daysNow_60 (by decide) ?_
                refine lv_isub hx hb dX12_daysNow_62 ?_
                refine lv_iload_n hx hb dX12_daysNow_63 rfl (lv_at hl 3 rfl) ?_
                refine lv_icmp_ge (tgt := 86) hx hb dX12_daysNow_64 (by decide) (fun hc8 => ?_) (fun hc8 => ?_)
                · have hF := it_p hc8 hF
                  refine lv_iconst (v := (-1)) hx hb dX12_daysNow_86 (by decide) ?_
                  have hF := (Option.some.inj hF).trans hp
                  subst hF
                  exact W.iret hx hb hr (fun t ht hW => ⟨rfl, by rw [ht]; exact hP, hS.F ht⟩) hS.2.2 dX12_daysNow_87
                · have hF := it_n hc8 hF
                  refine lv_iload hx hb dX12_daysNow_67 (lv_at hl 4 rfl) ?_
                  refine lv_iconst (v := 5) hx hb dX12_daysNow_69 (by decide) ?_
                  refine lv_iload_n hx hb dX12_daysNow_70 rfl (lv_at hl 3 rfl) ?_
                  refine lv_iconst (v := 1) hx hb dX12_daysNow_71 (by decide) ?_
                  refine lv_isub hx hb dX12_daysNow_72 ?_
                  refine lv_iload_n hx hb dX12_daysNow_73 rfl (lv_at hl 2 rfl) ?_
                  refine lv_bipush (v := 10) hx hb dX12_daysNow_74 (by decide) ?_
                  refine lv_isub hx hb dX12_daysNow_76 ?_
                  refine lv_isub hx hb dX12_daysNow_77 ?_
                  refine lv_imul hx hb dX12_daysNow_78 ?_
                  refine lv_ishr hx hb dX12_daysNow_79 ?_
                  refine lv_bipush (v := 31) hx hb dX12_daysNow_80 (by decide) ?_
                  refine lv_iand hx hb dX12_daysNow_82 ?_
                  refine lv_goto (tgt := 87) hx hb dX12_daysNow_83 (by decide) ?_
                  have hF := (Option.some.inj hF).trans hp
                  subst hF
                  exact W.iret hx hb hr (fun t ht hW => ⟨rfl, by rw [ht]; exact hP, hS.F ht⟩) hS.2.2 dX12_daysNow_87
              · have hF := it_p hc7 hF
                refine lv_iload_n hx hb dX12_daysNow_55 rfl (lv_at hl 3 rfl) ?_
                refine lv_goto (tgt := 87) hx hb dX12_daysNow_56 (by decide) ?_
                have hF := (Option.some.inj hF).trans hp
                subst hF
                exact W.iret hx hb hr (fun t ht hW => ⟨rfl, by rw [ht]; exact hP, hS.F ht⟩) hS.2.2 dX12_daysNow_87
      unfold B_X12_daysNow_20 at hF
      refine lv_iload_n hx hb dX12_daysNow_20 rfl (lv_at hl 3 rfl) ?_
      refine lv_iconst (v := 3) hx hb dX12_daysNow_21 (by decide) ?_
      refine lv_icmp_gt (tgt := 100) hx hb dX12_daysNow_22 (by decide) (fun hc3 => ?_) (fun hc3 => ?_)
      · have hF := it_p hc3 hF
        obtain ⟨r, hF1, hr0⟩ := mp_s hF
        clear hF
        subst hr0
        have hF := hF1
        clear hF1
        have hp : (fun r => r = out) r := hp
        refine lv_iconst (v := (-1)) hx hb dX12_daysNow_100 (by decide) ?_
        have hF := (Option.some.inj hF).trans hp
        subst hF
        exact W.iret hx hb hr (fun t ht hW => ⟨rfl, by rw [ht]; exact hP, hS.F ht⟩) hS.2.2 dX12_daysNow_101
      · have hF := it_n hc3 hF
        refine lv_iconst (v := 0) hx hb dX12_daysNow_25 (by decide) ?_
        refine lv_istore (lv' := [(4, .int 0), (0, .ref (ad 0)), (1, .int x1_20), (2, .int x2_20), (3, .int x3_20)]) hx hb dX12_daysNow_26 hl (by decide) rfl (fun ls hl => ?_)
        exact hN_28 x3_20 kFu f20 g20 a20 _ _ 0 ls hP hD hS (lv_sub hl [1, 2, 3, 4, 0] rfl) _ hF hp
  have hl := lv_entry ([.ref (ad 0), .int p1, .int p2]) (n := 5) (Nat.le_of_ble_eq_true rfl)
  rw [lg_entry_eq]
  generalize (lg_sl ([.ref (ad 0), .int p1, .int p2]) ++ List.replicate (5 - (lg_sl ([.ref (ad 0), .int p1, .int p2])).length) Slot.unset).toArray = ls at hl ⊢
  have hl : lv_has ls 5 [(0, .ref (ad 0)), (1, .int p1), (2, .int p2)] := hl
  obtain ⟨r, hF, hp⟩ : ∃ r, F_X12_daysNow f0 g0 a0 p1 p2 = some r ∧ r = out := ⟨out, hF, rfl⟩
  unfold F_X12_daysNow at hF
  refine lv_iload_n hx hb dX12_daysNow_0 rfl (lv_at hl 1 rfl) ?_
  refine lv_if_ne (tgt := 14) hx hb dX12_daysNow_1 (by decide) (fun hc1 => ?_) (fun hc1 => ?_)
  · have hF := it_n hc1 hF
    refine lv_aload_n hx hb dX12_daysNow_14 rfl (lv_at hl 0 rfl) ?_
    obtain ⟨r2, he2, hF⟩ := bd_s hF
    refine kS_w (va_runV (As := []) (rest := []) ⟨hx, hb, hml, hown, hts⟩ (c_X12_layWritten l hz D ad ck f0 g0 a0 r2 he2) (cwV 0 hts gX12_daysNow_X12_layWritten rfl rfl rfl ⟨rfl, pX12_layWritten⟩ ⟨Nat.le_of_ble_eq_true rfl, Nat.le_of_ble_eq_true rfl⟩) (kW.preV (va_recv hK hP (ci := 12) (q0 := 0) rfl rfl) hP (hE.kept hS hnA) hD hnA) rfl rfl hl.1 rfl (lv_room (Nat.le_of_ble_eq_true rfl)) dX12_daysNow_15 ⟨Nat.le_refl _, Nat.le_refl _⟩) hD hS rfl (fun H locs hP hD hS => ?_)
    refine lv_iconst (v := 1) hx hb dX12_daysNow_18 (by decide) ?_
    refine lv_istore_n (lv' := [(3, .int 1), (0, .ref (ad 0)), (1, .int p1), (2, .int p2)]) hx hb dX12_daysNow_19 rfl hl (by decide) rfl (fun ls hl => ?_)
    exact hN_20 p1 p2 kFu r2.1 r2.2.1 r2.2.2 _ _ 1 ls hP hD hS (lv_sub hl [1, 2, 3, 0] rfl) _ hF hp
  · have hF := it_p hc1 hF
    refine lv_iload_n hx hb dX12_daysNow_4 rfl (lv_at hl 2 rfl) ?_
    refine lv_if_ne (tgt := 12) hx hb dX12_daysNow_5 (by decide) (fun hc9 => ?_) (fun hc9 => ?_)
    · have hF := it_n hc9 hF
      refine lv_iconst (v := (-1)) hx hb dX12_daysNow_12 (by decide) ?_
      have hF := (Option.some.inj hF).trans hp
      subst hF
      exact W.iret hx hb hr (fun t ht hW => ⟨rfl, by rw [ht]; exact hP, hS.F ht⟩) hS.2.2 dX12_daysNow_13
    · have hF := it_p hc9 hF
      refine lv_iconst (v := 0) hx hb dX12_daysNow_8 (by decide) ?_
      refine lv_goto (tgt := 13) hx hb dX12_daysNow_9 (by decide) ?_
      have hF := (Option.some.inj hF).trans hp
      subst hF
      exact W.iret hx hb hr (fun t ht hW => ⟨rfl, by rw [ht]; exact hP, hS.F ht⟩) hS.2.2 dX12_daysNow_13

def N_X12_days_26 (f26 : Nat → Int32) (g26 : Nat → Int64) (a26 : Nat → Nat → Int32) (x1_26 : Int32) (x2_26 : Int32) : Option (Int32 × ST) := if (f26 1) = 0 then some ((-103), f26, g26, a26) else if (f26 13) = 40 then some ((-103), f26, g26, a26) else (F_X12_daysNow (upd f26 13 ((f26 13) + (1 : Int32))) g26 a26 x1_26 x2_26).bind fun r6 => some (r6.1, r6.2.1, r6.2.2.1, r6.2.2.2)
def F_X12_days (f0 : Nat → Int32) (g0 : Nat → Int64) (a0 : Nat → Nat → Int32) (p1 : Int32) (p2 : Int32) : Option (Int32 × ST) := if (F_X12_isCompany f0 g0 a0 p1) = 0 then some ((-102), f0, g0, a0) else if p2 = 0 then N_X12_days_26 f0 g0 a0 p1 p2 else if (F_X12_within p2 10 12) = 0 then some ((-102), f0, g0, a0) else N_X12_days_26 f0 g0 a0 p1 p2
set_option maxHeartbeats 4000000 in
set_option maxRecDepth 100000 in
theorem c_X12_days (l : Launch) (hz : Nat) (D : va_G) (ad : Nat → Nat) (ck : Nat → ClassId) (f0 : Nat → Int32) (g0 : Nat → Int64) (a0 : Nat → Nat → Int32) (p1 : Int32) (p2 : Int32) (out : (Int32 × ST)) (hF : F_X12_days f0 g0 a0 p1 p2 = some out) : Met l yX12_days wsX12_days ({ frames := 6, cells := 0, slots := 0, locals := 138 }) (kW hz D vwCl (tM ck) (wM ad ck f0 g0 a0) [.ref (ad 0), .int p1, .int p2]) (kQ D vwCl (some (.int out.1)) (wM ad ck f0 g0 a0) (wM ad ck out.2.1 out.2.2.1 out.2.2.2)) 0 0 (kAd (wM ad ck f0 g0 a0)) := by
  refine Met.ofW (cc := cX12_days) (maxL := 3) (ret := (some .int)) (by decide) rfl ?_
  intro p e s m args below meth c s₁ B hml hv
  obtain ⟨rfl, hP, hE, hD0⟩ := hv
  have hx := B.exec
  have hb := B.bytes
  have hr := B.returns
  have hts := atoms_spec (ws := wsX12_days) B.pre
  have hown : s.vm.findClass RX12 = some m.cls := findClass_of_methodNamed B.named
  have hlocks := B.notSynchronized
  have hK := hE.1
  have hnA := kAd_up hD0
  have hD := kD_self hD0
  have hS : va_S (kAd (wM ad ck f0 g0 a0)) s.heap s.heap [] := va_S.rf
  have hiX12 : ∀ w ∈ u_ws RX12 TX12 31, w ∈ wsX12_days := by decide +kernel
  have hf83 := hts (.fieldLink RX12 83 "SpeltByFriendsModel" "people" "I") (by decide +kernel)
  have hf160 := hts (.fieldLink RX12 160 "SpeltByFriendsModel" "dayAsks" "I") (by decide +kernel)
  have hN_26 : ∀ (f26 : Nat → Int32) (g26 : Nat → Int64) (a26 : Nat → Nat → Int32) (H : Heap) (locs : List Loc) (x1_26 : Int32) (x2_26 : Int32) (ls : Array Slot), va_P D vwCl (wM ad ck f26 g26 a26) H → va_D (kAd (wM ad ck f0 g0 a0)) (wM ad ck f26 g26 a26) → va_S (kAd (wM ad ck f0 g0 a0)) s.heap H locs → lv_has ls 3 [(0, .ref (ad 0)), (1, .int x1_26), (2, .int x2_26)] → ∀ r : (Int32 × ST), N_X12_days_26 f26 g26 a26 x1_26 x2_26 = some r → (fun r => r = out) r → W p l e (headSpec wsX12_days ({ frames := 6, cells := 0, slots := 0, locals := 138 })).room s m [.ref (ad 0), .int p1, .int p2].toArray below meth c H locs 0 0 (MQ below (kQ D vwCl (some (.int out.1)) (wM ad ck f0 g0 a0) (wM ad ck out.2.1 out.2.2.1 out.2.2.2)) [.ref (ad 0), .int p1, .int p2].toArray s 0 0 (kAd (wM ad ck f0 g0 a0))) (F0 m 26 ls []) := by
    intro f26 g26 a26 H locs x1_26 x2_26 ls hP hD hS hl r hF hp
    unfold N_X12_days_26 at hF
    refine lv_aload_n hx hb dX12_days_26 rfl (lv_at hl 0 rfl) ?_
    refine va_get (D := D) (ci := 12) (v := .int (f26 1)) (C := RX12) (T := TX12) (N := 31) hx hb hts hiX12 hown hK hP 0 rfl rfl 1 (by decide) hf83 (fun _ h9 => h9) rfl dX12_days_27 ?_
    refine lv_if_eq (tgt := 42) hx hb dX12_days_30 (by decide) (fun hc4 => ?_) (fun hc4 => ?_)
    · have hF := it_p hc4 hF
      refine lv_bipush (v := (-103)) hx hb dX12_days_42 (by decide) ?_
      have hF := (Option.some.inj hF).trans hp
      subst hF
      exact W.iret hx hb hr (fun t ht hW => ⟨rfl, by rw [ht]; exact hP, hS.F ht⟩) hS.2.2 dX12_days_44
    · have hF := it_n hc4 hF
      refine lv_aload_n hx hb dX12_days_33 rfl (lv_at hl 0 rfl) ?_
      refine va_get (D := D) (ci := 12) (v := .int (f26 13)) (C := RX12) (T := TX12) (N := 31) hx hb hts hiX12 hown hK hP 0 rfl rfl 13 (by decide) hf160 (fun _ h9 => h9) rfl dX12_days_34 ?_
      refine lv_bipush (v := 40) hx hb dX12_days_37 (by decide) ?_
      refine lv_icmp_ne (tgt := 45) hx hb dX12_days_39 (by decide) (fun hc5 => ?_) (fun hc5 => ?_)
      · have hF := it_n hc5 hF
        refine lv_aload_n hx hb dX12_days_45 rfl (lv_at hl 0 rfl) ?_
        refine lv_dup hx hb dX12_days_46 rfl ?_
        refine va_get (D := D) (ci := 12) (v := .int (f26 13)) (C := RX12) (T := TX12) (N := 31) hx hb hts hiX12 hown hK hP 0 rfl rfl 13 (by decide) hf160 (fun _ h9 => h9) rfl dX12_days_47 ?_
        refine lv_iconst (v := 1) hx hb dX12_days_50 (by decide) ?_
        refine lv_iadd hx hb dX12_days_51 ?_
        refine va_put (D := D) (ci := 12) (v := .int ((f26 13) + (1 : Int32))) (ty := .int) (C := RX12) (T := TX12) (N := 31) hx hb hts hiX12 tyX12 tyX12_ok nmX12 hown hK hP hD hS 0 rfl rfl 13 (by decide) hf160 (fun _ h9 => h9) rfl (tyX12_ok 13 (by decide)) rfl rfl (Nat.le_of_ble_eq_true rfl) dX12_days_52 (fun H locs hP hD hS => ?_)
        have hP := kPe (ef_wM0_13 ad ck f26 g26 a26 ((f26 13) + (1 : Int32))) hP
        have hD := kDe (ef_wM0_13 ad ck f26 g26 a26 ((f26 13) + (1 : Int32))) hD
        refine lv_aload_n hx hb dX12_days_55 rfl (lv_at hl 0 rfl) ?_
        refine lv_iload_n hx hb dX12_days_56 rfl (lv_at hl 1 rfl) ?_
        refine lv_iload_n hx hb dX12_days_57 rfl (lv_at hl 2 rfl) ?_
        obtain ⟨r6, he6, hF⟩ := bd_s hF
        refine kS_w (va_runV (As := [.int x1_26, .int x2_26]) (rest := []) ⟨hx, hb, hml, hown, hts⟩ (c_X12_daysNow l hz D ad ck (upd f26 13 ((f26 13) + (1 : Int32))) g26 a26 x1_26 x2_26 r6 he6) (cwV 2 hts gX12_days_X12_daysNow rfl rfl rfl ⟨rfl, pX12_daysNow⟩ ⟨Nat.le_of_ble_eq_true rfl, Nat.le_of_ble_eq_true rfl⟩) (kW.preV (va_recv hK hP (ci := 12) (q0 := 0) rfl rfl) hP (hE.kept hS hnA) hD hnA) rfl rfl hl.1 rfl (lv_room (Nat.le_of_ble_eq_true rfl)) dX12_days_58 ⟨Nat.le_refl _, Nat.le_refl _⟩) hD hS rfl (fun H locs hP hD hS => ?_)
        have hF := (Option.some.inj hF).trans hp
        subst hF
        exact W.iret hx hb hr (fun t ht hW => ⟨rfl, by rw [ht]; exact hP, hS.F ht⟩) hS.2.2 dX12_days_61
      · have hF := it_p hc5 hF
        refine lv_bipush (v := (-103)) hx hb dX12_days_42 (by decide) ?_
        have hF := (Option.some.inj hF).trans hp
        subst hF
        exact W.iret hx hb hr (fun t ht hW => ⟨rfl, by rw [ht]; exact hP, hS.F ht⟩) hS.2.2 dX12_days_44
  have hl := lv_entry ([.ref (ad 0), .int p1, .int p2]) (n := 3) (Nat.le_of_ble_eq_true rfl)
  rw [lg_entry_eq]
  generalize (lg_sl ([.ref (ad 0), .int p1, .int p2]) ++ List.replicate (3 - (lg_sl ([.ref (ad 0), .int p1, .int p2])).length) Slot.unset).toArray = ls at hl ⊢
  have hl : lv_has ls 3 [(0, .ref (ad 0)), (1, .int p1), (2, .int p2)] := hl
  obtain ⟨r, hF, hp⟩ : ∃ r, F_X12_days f0 g0 a0 p1 p2 = some r ∧ r = out := ⟨out, hF, rfl⟩
  unfold F_X12_days at hF
  refine lv_aload_n hx hb dX12_days_0 rfl (lv_at hl 0 rfl) ?_
  refine lv_iload_n hx hb dX12_days_1 rfl (lv_at hl 1 rfl) ?_
  refine kS_b (va_runV (As := [.int p1]) (rest := []) ⟨hx, hb, hml, hown, hts⟩ (c_X12_isCompany l hz D ad ck f0 g0 a0 p1) (cwV 1 hts gX12_days_X12_isCompany rfl rfl rfl ⟨rfl, pX12_isCompany⟩ ⟨Nat.le_of_ble_eq_true rfl, Nat.le_of_ble_eq_true rfl⟩) (kR.preV (va_recv hK hP (ci := 12) (q0 := 0) rfl rfl) hP (hE.kept hS hnA)) rfl rfl hl.1 rfl (lv_room (Nat.le_of_ble_eq_true rfl)) dX12_days_2 ⟨Nat.le_refl _, Nat.le_refl _⟩) (fun hz1 => ?_)
  refine lv_if_eq (tgt := 23) hx hb dX12_days_5 (by decide) (fun hc2 => ?_) (fun hc2 => ?_)
  · have hF := it_p hc2 hF
    refine lv_bipush (v := (-102)) hx hb dX12_days_23 (by decide) ?_
    have hF := (Option.some.inj hF).trans hp
    subst hF
    exact W.iret hx hb hr (fun t ht hW => ⟨rfl, by rw [ht]; exact hP, hS.F ht⟩) hS.2.2 dX12_days_25
  · have hF := it_n hc2 hF
    refine lv_iload_n hx hb dX12_days_8 rfl (lv_at hl 2 rfl) ?_
    refine lv_if_eq (tgt := 26) hx hb dX12_days_9 (by decide) (fun hc3 => ?_) (fun hc3 => ?_)
    · have hF := it_p hc3 hF
      exact hN_26 f0 g0 a0 _ _ p1 p2 ls hP hD hS (lv_sub hl [0, 1, 2] rfl) _ hF hp
    · have hF := it_n hc3 hF
      refine lv_iload_n hx hb dX12_days_12 rfl (lv_at hl 2 rfl) ?_
      refine lv_bipush (v := 10) hx hb dX12_days_13 (by decide) ?_
      refine lv_bipush (v := 12) hx hb dX12_days_15 (by decide) ?_
      refine kS_b (va_runS (As := [.int p2, .int 10, .int 12]) (rest := []) ⟨hx, hb, hml, hown, hts⟩ (c_X12_within l hz D (tM ck) p2 10 12) (va_cwS 3 hts gX12_days_X12_within rfl rfl rfl pX12_within ⟨Nat.le_of_ble_eq_true rfl, Nat.le_of_ble_eq_true rfl⟩) (kR.preS kP_nil (hE.kept hS hnA)) rfl rfl hl.1 rfl (lv_room (Nat.le_of_ble_eq_true rfl)) dX12_days_17 ⟨Nat.le_refl _, Nat.le_refl _⟩) (fun hz7 => ?_)
      refine lv_if_ne (tgt := 26) hx hb dX12_days_20 (by decide) (fun hc8 => ?_) (fun hc8 => ?_)
      · have hF := it_n hc8 hF
        exact hN_26 f0 g0 a0 _ _ p1 p2 ls hP hD hS (lv_sub hl [0, 1, 2] rfl) _ hF hp
      · have hF := it_p hc8 hF
        refine lv_bipush (v := (-102)) hx hb dX12_days_23 (by decide) ?_
        have hF := (Option.some.inj hF).trans hp
        subst hF
        exact W.iret hx hb hr (fun t ht hW => ⟨rfl, by rw [ht]; exact hP, hS.F ht⟩) hS.2.2 dX12_days_25

def N_X12_hear_79 (f79 : Nat → Int32) (g79 : Nat → Int64) (a79 : Nat → Nat → Int32) (t0_79 : Int32) (t1_79 : Int32) : Option (Int32 × ST) := gd (inB t1_79 6) (some (((upd f79 8 ((f79 8) + (1 : Int32))) 8), (upd f79 8 ((f79 8) + (1 : Int32))), g79, (ua a79 11 t1_79.toNatClampNeg t0_79)))
def F_X12_hear (f0 : Nat → Int32) (g0 : Nat → Int64) (a0 : Nat → Nat → Int32) (p1 : Int32) (p2 : Int32) (p3 : Int32) : Option (Int32 × ST) := if (F_X12_isOne f0 g0 a0 p1) = 0 then some ((-101), f0, g0, a0) else if (F_X12_isCompany f0 g0 a0 p2) = 0 then some ((-102), f0, g0, a0) else if (F_X12_isIn p2 p1) = 0 then some ((-102), f0, g0, a0) else if (f0 8) = 6 then some ((-104), f0, g0, a0) else gd (inB (f0 8) 6) (gd (inB (f0 8) 6) (if p3 = 0 then N_X12_hear_79 f0 g0 (ua (ua a0 9 (f0 8).toNatClampNeg p1) 10 (f0 8).toNatClampNeg p2) 0 (f0 8) else N_X12_hear_79 f0 g0 (ua (ua a0 9 (f0 8).toNatClampNeg p1) 10 (f0 8).toNatClampNeg p2) 1 (f0 8)))
set_option maxHeartbeats 4000000 in
set_option maxRecDepth 100000 in
theorem c_X12_hear (l : Launch) (hz : Nat) (D : va_G) (ad : Nat → Nat) (ck : Nat → ClassId) (f0 : Nat → Int32) (g0 : Nat → Int64) (a0 : Nat → Nat → Int32) (p1 : Int32) (p2 : Int32) (p3 : Int32) (out : (Int32 × ST)) (hF : F_X12_hear f0 g0 a0 p1 p2 p3 = some out) : Met l yX12_hear wsX12_hear ({ frames := 2, cells := 0, slots := 0, locals := 43 }) (kW hz D vwCl (tM ck) (wM ad ck f0 g0 a0) [.ref (ad 0), .int p1, .int p2, .int p3]) (kQ D vwCl (some (.int out.1)) (wM ad ck f0 g0 a0) (wM ad ck out.2.1 out.2.2.1 out.2.2.2)) 0 0 (kAd (wM ad ck f0 g0 a0)) := by
  refine Met.ofW (cc := cX12_hear) (maxL := 4) (ret := (some .int)) (by decide) rfl ?_
  intro p e s m args below meth c s₁ B hml hv
  obtain ⟨rfl, hP, hE, hD0⟩ := hv
  have hx := B.exec
  have hb := B.bytes
  have hr := B.returns
  have hts := atoms_spec (ws := wsX12_hear) B.pre
  have hown : s.vm.findClass RX12 = some m.cls := findClass_of_methodNamed B.named
  have hlocks := B.notSynchronized
  have hK := hE.1
  have hnA := kAd_up hD0
  have hD := kD_self hD0
  have hS : va_S (kAd (wM ad ck f0 g0 a0)) s.heap s.heap [] := va_S.rf
  have hiX12 : ∀ w ∈ u_ws RX12 TX12 31, w ∈ wsX12_hear := by decide +kernel
  have hf22 := hts (.fieldLink RX12 22 "SpeltByFriendsModel" "heardWho" "[I") (by decide +kernel)
  have hf25 := hts (.fieldLink RX12 25 "SpeltByFriendsModel" "heardIn" "[I") (by decide +kernel)
  have hf28 := hts (.fieldLink RX12 28 "SpeltByFriendsModel" "heardSo" "[I") (by decide +kernel)
  have hf95 := hts (.fieldLink RX12 95 "SpeltByFriendsModel" "heard" "I") (by decide +kernel)
  have hN_79 : ∀ (f79 : Nat → Int32) (g79 : Nat → Int64) (a79 : Nat → Nat → Int32) (H : Heap) (locs : List Loc) (t0_79 : Int32) (t1_79 : Int32) (ls : Array Slot), va_P D vwCl (wM ad ck f79 g79 a79) H → va_D (kAd (wM ad ck f0 g0 a0)) (wM ad ck f79 g79 a79) → va_S (kAd (wM ad ck f0 g0 a0)) s.heap H locs → lv_has ls 4 [(0, .ref (ad 0))] → ∀ r : (Int32 × ST), N_X12_hear_79 f79 g79 a79 t0_79 t1_79 = some r → (fun r => r = out) r → W p l e (headSpec wsX12_hear ({ frames := 2, cells := 0, slots := 0, locals := 43 })).room s m [.ref (ad 0), .int p1, .int p2, .int p3].toArray below meth c H locs 0 0 (MQ below (kQ D vwCl (some (.int out.1)) (wM ad ck f0 g0 a0) (wM ad ck out.2.1 out.2.2.1 out.2.2.2)) [.ref (ad 0), .int p1, .int p2, .int p3].toArray s 0 0 (kAd (wM ad ck f0 g0 a0))) (F0 m 79 ls [.int t0_79, .int t1_79, .ref (ad 11)]) := by
    intro f79 g79 a79 H locs t0_79 t1_79 ls hP hD hS hl r hF hp
    unfold N_X12_hear_79 at hF
    obtain ⟨hg11, hF⟩ := gd_s hF
    refine va_iast hx hb hK hP hD hS 7 6 rfl rfl (inB_in hg11) dX12_hear_79 (fun H locs hP hD hS => ?_)
    have hP := kPe (eu_wM11 ad ck f79 g79 a79 t1_79.toNatClampNeg t0_79) hP
    have hD := kDe (eu_wM11 ad ck f79 g79 a79 t1_79.toNatClampNeg t0_79) hD
    refine lv_aload_n hx hb dX12_hear_80 rfl (lv_at hl 0 rfl) ?_
    refine lv_dup hx hb dX12_hear_81 rfl ?_
    refine va_get (D := D) (ci := 12) (v := .int (f79 8)) (C := RX12) (T := TX12) (N := 31) hx hb hts hiX12 hown hK hP 0 rfl rfl 8 (by decide) hf95 (fun _ h9 => h9) rfl dX12_hear_82 ?_
    refine lv_iconst (v := 1) hx hb dX12_hear_85 (by decide) ?_
    refine lv_iadd hx hb dX12_hear_86 ?_
    refine va_put (D := D) (ci := 12) (v := .int ((f79 8) + (1 : Int32))) (ty := .int) (C := RX12) (T := TX12) (N := 31) hx hb hts hiX12 tyX12 tyX12_ok nmX12 hown hK hP hD hS 0 rfl rfl 8 (by decide) hf95 (fun _ h9 => h9) rfl (tyX12_ok 8 (by decide)) rfl rfl (Nat.le_of_ble_eq_true rfl) dX12_hear_87 (fun H locs hP hD hS => ?_)
    have hP := kPe (ef_wM0_8 ad ck f79 g79 (ua a79 11 t1_79.toNatClampNeg t0_79) ((f79 8) + (1 : Int32))) hP
    have hD := kDe (ef_wM0_8 ad ck f79 g79 (ua a79 11 t1_79.toNatClampNeg t0_79) ((f79 8) + (1 : Int32))) hD
    refine lv_aload_n hx hb dX12_hear_90 rfl (lv_at hl 0 rfl) ?_
    refine va_get (D := D) (ci := 12) (v := .int ((upd f79 8 ((f79 8) + (1 : Int32))) 8)) (C := RX12) (T := TX12) (N := 31) hx hb hts hiX12 hown hK hP 0 rfl rfl 8 (by decide) hf95 (fun _ h9 => h9) rfl dX12_hear_91 ?_
    have hF := (Option.some.inj hF).trans hp
    subst hF
    exact W.iret hx hb hr (fun t ht hW => ⟨rfl, by rw [ht]; exact hP, hS.F ht⟩) hS.2.2 dX12_hear_94
  have hl := lv_entry ([.ref (ad 0), .int p1, .int p2, .int p3]) (n := 4) (Nat.le_of_ble_eq_true rfl)
  rw [lg_entry_eq]
  generalize (lg_sl ([.ref (ad 0), .int p1, .int p2, .int p3]) ++ List.replicate (4 - (lg_sl ([.ref (ad 0), .int p1, .int p2, .int p3])).length) Slot.unset).toArray = ls at hl ⊢
  have hl : lv_has ls 4 [(0, .ref (ad 0)), (1, .int p1), (2, .int p2), (3, .int p3)] := hl
  obtain ⟨r, hF, hp⟩ : ∃ r, F_X12_hear f0 g0 a0 p1 p2 p3 = some r ∧ r = out := ⟨out, hF, rfl⟩
  unfold F_X12_hear at hF
  refine lv_aload_n hx hb dX12_hear_0 rfl (lv_at hl 0 rfl) ?_
  refine lv_iload_n hx hb dX12_hear_1 rfl (lv_at hl 1 rfl) ?_
  refine kS_b (va_runV (As := [.int p1]) (rest := []) ⟨hx, hb, hml, hown, hts⟩ (c_X12_isOne l hz D ad ck f0 g0 a0 p1) (cwV 1 hts gX12_hear_X12_isOne rfl rfl rfl ⟨rfl, pX12_isOne⟩ ⟨Nat.le_of_ble_eq_true rfl, Nat.le_of_ble_eq_true rfl⟩) (kR.preV (va_recv hK hP (ci := 12) (q0 := 0) rfl rfl) hP (hE.kept hS hnA)) rfl rfl hl.1 rfl (lv_room (Nat.le_of_ble_eq_true rfl)) dX12_hear_2 ⟨Nat.le_refl _, Nat.le_refl _⟩) (fun hz1 => ?_)
  refine lv_if_ne (tgt := 11) hx hb dX12_hear_5 (by decide) (fun hc2 => ?_) (fun hc2 => ?_)
  · have hF := it_n hc2 hF
    refine lv_aload_n hx hb dX12_hear_11 rfl (lv_at hl 0 rfl) ?_
    refine lv_iload_n hx hb dX12_hear_12 rfl (lv_at hl 2 rfl) ?_
    refine kS_b (va_runV (As := [.int p2]) (rest := []) ⟨hx, hb, hml, hown, hts⟩ (c_X12_isCompany l hz D ad ck f0 g0 a0 p2) (cwV 1 hts gX12_hear_X12_isCompany rfl rfl rfl ⟨rfl, pX12_isCompany⟩ ⟨Nat.le_of_ble_eq_true rfl, Nat.le_of_ble_eq_true rfl⟩) (kR.preV (va_recv hK hP (ci := 12) (q0 := 0) rfl rfl) hP (hE.kept hS hnA)) rfl rfl hl.1 rfl (lv_room (Nat.le_of_ble_eq_true rfl)) dX12_hear_13 ⟨Nat.le_refl _, Nat.le_refl _⟩) (fun hz3 => ?_)
    refine lv_if_eq (tgt := 27) hx hb dX12_hear_16 (by decide) (fun hc4 => ?_) (fun hc4 => ?_)
    · have hF := it_p hc4 hF
      refine lv_bipush (v := (-102)) hx hb dX12_hear_27 (by decide) ?_
      have hF := (Option.some.inj hF).trans hp
      subst hF
      exact W.iret hx hb hr (fun t ht hW => ⟨rfl, by rw [ht]; exact hP, hS.F ht⟩) hS.2.2 dX12_hear_29
    · have hF := it_n hc4 hF
      refine lv_iload_n hx hb dX12_hear_19 rfl (lv_at hl 2 rfl) ?_
      refine lv_iload_n hx hb dX12_hear_20 rfl (lv_at hl 1 rfl) ?_
      refine kS_b (va_runS (As := [.int p2, .int p1]) (rest := []) ⟨hx, hb, hml, hown, hts⟩ (c_X12_isIn l hz D (tM ck) p2 p1) (va_cwS 2 hts gX12_hear_X12_isIn rfl rfl rfl pX12_isIn ⟨Nat.le_of_ble_eq_true rfl, Nat.le_of_ble_eq_true rfl⟩) (kR.preS kP_nil (hE.kept hS hnA)) rfl rfl hl.1 rfl (lv_room (Nat.le_of_ble_eq_true rfl)) dX12_hear_21 ⟨Nat.le_refl _, Nat.le_refl _⟩) (fun hz5 => ?_)
      refine lv_if_ne (tgt := 30) hx hb dX12_hear_24 (by decide) (fun hc6 => ?_) (fun hc6 => ?_)
      · have hF := it_n hc6 hF
        refine lv_aload_n hx hb dX12_hear_30 rfl (lv_at hl 0 rfl) ?_
        refine va_get (D := D) (ci := 12) (v := .int (f0 8)) (C := RX12) (T := TX12) (N := 31) hx hb hts hiX12 hown hK hP 0 rfl rfl 8 (by decide) hf95 (fun _ h9 => h9) rfl dX12_hear_31 ?_
        refine lv_bipush (v := 6) hx hb dX12_hear_34 (by decide) ?_
        refine lv_icmp_ne (tgt := 42) hx hb dX12_hear_36 (by decide) (fun hc7 => ?_) (fun hc7 => ?_)
        · have hF := it_n hc7 hF
          refine lv_aload_n hx hb dX12_hear_42 rfl (lv_at hl 0 rfl) ?_
          refine va_get (D := D) (ci := 12) (v := .ref (ad 9)) (C := RX12) (T := TX12) (N := 31) hx hb hts hiX12 hown hK hP 0 rfl rfl 9 (by decide) hf22 (fun _ h9 => h9) rfl dX12_hear_43 ?_
          refine lv_aload_n hx hb dX12_hear_46 rfl (lv_at hl 0 rfl) ?_
          refine va_get (D := D) (ci := 12) (v := .int (f0 8)) (C := RX12) (T := TX12) (N := 31) hx hb hts hiX12 hown hK hP 0 rfl rfl 8 (by decide) hf95 (fun _ h9 => h9) rfl dX12_hear_47 ?_
          refine lv_iload_n hx hb dX12_hear_50 rfl (lv_at hl 1 rfl) ?_
          obtain ⟨hg8, hF⟩ := gd_s hF
          refine va_iast hx hb hK hP hD hS 5 4 rfl rfl (inB_in hg8) dX12_hear_51 (fun H locs hP hD hS => ?_)
          have hP := kPe (eu_wM9 ad ck f0 g0 a0 (f0 8).toNatClampNeg p1) hP
          have hD := kDe (eu_wM9 ad ck f0 g0 a0 (f0 8).toNatClampNeg p1) hD
          refine lv_aload_n hx hb dX12_hear_52 rfl (lv_at hl 0 rfl) ?_
          refine va_get (D := D) (ci := 12) (v := .ref (ad 10)) (C := RX12) (T := TX12) (N := 31) hx hb hts hiX12 hown hK hP 0 rfl rfl 10 (by decide) hf25 (fun _ h9 => h9) rfl dX12_hear_53 ?_
          refine lv_aload_n hx hb dX12_hear_56 rfl (lv_at hl 0 rfl) ?_
          refine va_get (D := D) (ci := 12) (v := .int (f0 8)) (C := RX12) (T := TX12) (N := 31) hx hb hts hiX12 hown hK hP 0 rfl rfl 8 (by decide) hf95 (fun _ h9 => h9) rfl dX12_hear_57 ?_
          refine lv_iload_n hx hb dX12_hear_60 rfl (lv_at hl 2 rfl) ?_
          obtain ⟨hg9, hF⟩ := gd_s hF
          refine va_iast hx hb hK hP hD hS 6 5 rfl rfl (inB_in hg9) dX12_hear_61 (fun H locs hP hD hS => ?_)
          have hP := kPe (eu_wM10 ad ck f0 g0 (ua a0 9 (f0 8).toNatClampNeg p1) (f0 8).toNatClampNeg p2) hP
          have hD := kDe (eu_wM10 ad ck f0 g0 (ua a0 9 (f0 8).toNatClampNeg p1) (f0 8).toNatClampNeg p2) hD
          refine lv_aload_n hx hb dX12_hear_62 rfl (lv_at hl 0 rfl) ?_
          refine va_get (D := D) (ci := 12) (v := .ref (ad 11)) (C := RX12) (T := TX12) (N := 31) hx hb hts hiX12 hown hK hP 0 rfl rfl 11 (by decide) hf28 (fun _ h9 => h9) rfl dX12_hear_63 ?_
          refine lv_aload_n hx hb dX12_hear_66 rfl (lv_at hl 0 rfl) ?_
          refine va_get (D := D) (ci := 12) (v := .int (f0 8)) (C := RX12) (T := TX12) (N := 31) hx hb hts hiX12 hown hK hP 0 rfl rfl 8 (by decide) hf95 (fun _ h9 => h9) rfl dX12_hear_67 ?_
          refine lv_iload_n hx hb dX12_hear_70 rfl (lv_at hl 3 rfl) ?_
          refine lv_if_eq (tgt := 78) hx hb dX12_hear_71 (by decide) (fun hc10 => ?_) (fun hc10 => ?_)
          · have hF := it_p hc10 hF
            refine lv_iconst (v := 0) hx hb dX12_hear_78 (by decide) ?_
            exact hN_79 f0 g0 (ua (ua a0 9 (f0 8).toNatClampNeg p1) 10 (f0 8).toNatClampNeg p2) _ _ 0 (f0 8) ls hP hD hS (lv_sub hl [0] rfl) _ hF hp
          · have hF := it_n hc10 hF
            refine lv_iconst (v := 1) hx hb dX12_hear_74 (by decide) ?_
            refine lv_goto (tgt := 79) hx hb dX12_hear_75 (by decide) ?_
            exact hN_79 f0 g0 (ua (ua a0 9 (f0 8).toNatClampNeg p1) 10 (f0 8).toNatClampNeg p2) _ _ 1 (f0 8) ls hP hD hS (lv_sub hl [0] rfl) _ hF hp
        · have hF := it_p hc7 hF
          refine lv_bipush (v := (-104)) hx hb dX12_hear_39 (by decide) ?_
          have hF := (Option.some.inj hF).trans hp
          subst hF
          exact W.iret hx hb hr (fun t ht hW => ⟨rfl, by rw [ht]; exact hP, hS.F ht⟩) hS.2.2 dX12_hear_41
      · have hF := it_p hc6 hF
        refine lv_bipush (v := (-102)) hx hb dX12_hear_27 (by decide) ?_
        have hF := (Option.some.inj hF).trans hp
        subst hF
        exact W.iret hx hb hr (fun t ht hW => ⟨rfl, by rw [ht]; exact hP, hS.F ht⟩) hS.2.2 dX12_hear_29
  · have hF := it_p hc2 hF
    refine lv_bipush (v := (-101)) hx hb dX12_hear_8 (by decide) ?_
    have hF := (Option.some.inj hF).trans hp
    subst hF
    exact W.iret hx hb hr (fun t ht hW => ⟨rfl, by rw [ht]; exact hP, hS.F ht⟩) hS.2.2 dX12_hear_10

def F_X12_forget (f0 : Nat → Int32) (g0 : Nat → Int64) (a0 : Nat → Nat → Int32) : Option (Int32 × ST) := some ((f0 8), (upd f0 8 0), g0, a0)
set_option maxHeartbeats 4000000 in
set_option maxRecDepth 100000 in
theorem c_X12_forget (l : Launch) (hz : Nat) (D : va_G) (ad : Nat → Nat) (ck : Nat → ClassId) (f0 : Nat → Int32) (g0 : Nat → Int64) (a0 : Nat → Nat → Int32) (out : (Int32 × ST)) (hF : F_X12_forget f0 g0 a0 = some out) : Met l yX12_forget wsX12_forget ({ frames := 0, cells := 0, slots := 0, locals := 0 }) (kW hz D vwCl (tM ck) (wM ad ck f0 g0 a0) [.ref (ad 0)]) (kQ D vwCl (some (.int out.1)) (wM ad ck f0 g0 a0) (wM ad ck out.2.1 out.2.2.1 out.2.2.2)) 0 0 (kAd (wM ad ck f0 g0 a0)) := by
  refine Met.ofW (cc := cX12_forget) (maxL := 2) (ret := (some .int)) (by decide) rfl ?_
  intro p e s m args below meth c s₁ B hml hv
  obtain ⟨rfl, hP, hE, hD0⟩ := hv
  have hx := B.exec
  have hb := B.bytes
  have hr := B.returns
  have hts := atoms_spec (ws := wsX12_forget) B.pre
  have hown : s.vm.findClass RX12 = some m.cls := findClass_of_methodNamed B.named
  have hlocks := B.notSynchronized
  have hK := hE.1
  have hnA := kAd_up hD0
  have hD := kD_self hD0
  have hS : va_S (kAd (wM ad ck f0 g0 a0)) s.heap s.heap [] := va_S.rf
  have hiX12 : ∀ w ∈ u_ws RX12 TX12 31, w ∈ wsX12_forget := by decide +kernel
  have hf95 := hts (.fieldLink RX12 95 "SpeltByFriendsModel" "heard" "I") (by decide +kernel)
  have hl := lv_entry ([.ref (ad 0)]) (n := 2) (Nat.le_of_ble_eq_true rfl)
  rw [lg_entry_eq]
  generalize (lg_sl ([.ref (ad 0)]) ++ List.replicate (2 - (lg_sl ([.ref (ad 0)])).length) Slot.unset).toArray = ls at hl ⊢
  have hl : lv_has ls 2 [(0, .ref (ad 0))] := hl
  obtain ⟨r, hF, hp⟩ : ∃ r, F_X12_forget f0 g0 a0 = some r ∧ r = out := ⟨out, hF, rfl⟩
  unfold F_X12_forget at hF
  refine lv_aload_n hx hb dX12_forget_0 rfl (lv_at hl 0 rfl) ?_
  refine va_get (D := D) (ci := 12) (v := .int (f0 8)) (C := RX12) (T := TX12) (N := 31) hx hb hts hiX12 hown hK hP 0 rfl rfl 8 (by decide) hf95 (fun _ h9 => h9) rfl dX12_forget_1 ?_
  refine lv_istore_n (lv' := [(1, .int (f0 8)), (0, .ref (ad 0))]) hx hb dX12_forget_4 rfl hl (by decide) rfl (fun ls hl => ?_)
  refine lv_aload_n hx hb dX12_forget_5 rfl (lv_at hl 1 rfl) ?_
  refine lv_iconst (v := 0) hx hb dX12_forget_6 (by decide) ?_
  refine va_put (D := D) (ci := 12) (v := .int 0) (ty := .int) (C := RX12) (T := TX12) (N := 31) hx hb hts hiX12 tyX12 tyX12_ok nmX12 hown hK hP hD hS 0 rfl rfl 8 (by decide) hf95 (fun _ h9 => h9) rfl (tyX12_ok 8 (by decide)) rfl rfl (Nat.le_of_ble_eq_true rfl) dX12_forget_7 (fun H locs hP hD hS => ?_)
  have hP := kPe (ef_wM0_8 ad ck f0 g0 a0 0) hP
  have hD := kDe (ef_wM0_8 ad ck f0 g0 a0 0) hD
  refine lv_iload_n hx hb dX12_forget_10 rfl (lv_at hl 0 rfl) ?_
  have hF := (Option.some.inj hF).trans hp
  subst hF
  exact W.iret hx hb hr (fun t ht hW => ⟨rfl, by rw [ht]; exact hP, hS.F ht⟩) hS.2.2 dX12_forget_11

def N_X12_couldHold_69 (f0 : Nat → Int32) (g0 : Nat → Int64) (a0 : Nat → Nat → Int32) (x1_6 : Int32) (x2_6 : Int32) (x3_6 : Int32) (x5_69 : Int32) (t0_69 : Int32) : Option ((Int32 × Int32) ⊕ Int32) := some (.inl (t0_69, (x5_69 + 1)))
def N_X12_couldHold_68 (f0 : Nat → Int32) (g0 : Nat → Int64) (a0 : Nat → Nat → Int32) (x1_6 : Int32) (x2_6 : Int32) (x3_6 : Int32) (x5_68 : Int32) : Option ((Int32 × Int32) ⊕ Int32) := N_X12_couldHold_69 f0 g0 a0 x1_6 x2_6 x3_6 x5_68 0
def N_X12_couldHold_64 (f0 : Nat → Int32) (g0 : Nat → Int64) (a0 : Nat → Nat → Int32) (x1_6 : Int32) (x2_6 : Int32) (x3_6 : Int32) (x5_64 : Int32) : Option ((Int32 × Int32) ⊕ Int32) := N_X12_couldHold_69 f0 g0 a0 x1_6 x2_6 x3_6 x5_64 1
def N_X12_couldHold_61 (f0 : Nat → Int32) (g0 : Nat → Int64) (a0 : Nat → Nat → Int32) (x1_6 : Int32) (x2_6 : Int32) (x3_6 : Int32) (x5_61 : Int32) (t0_61 : Int32) (t1_61 : Int32) : Option ((Int32 × Int32) ⊕ Int32) := if t1_61 = t0_61 then N_X12_couldHold_64 f0 g0 a0 x1_6 x2_6 x3_6 x5_61 else N_X12_couldHold_68 f0 g0 a0 x1_6 x2_6 x3_6 x5_61
def B_X12_couldHold_6 (f0 : Nat → Int32) (g0 : Nat → Int64) (a0 : Nat → Nat → Int32) (x1_6 : Int32) (x2_6 : Int32) (x3_6 : Int32) (x4_6 : Int32) (x5_6 : Int32) : Option ((Int32 × Int32) ⊕ Int32) := if (f0 8) ≤ x5_6 then Option.map Sum.inr (some x4_6) else if x4_6 = 0 then N_X12_couldHold_68 f0 g0 a0 x1_6 x2_6 x3_6 x5_6 else gd (inB x5_6 6) (if (a0 9 x5_6.toNatClampNeg) = x1_6 then gd (inB x5_6 6) ((F_X12_isWrittenBy f0 g0 a0 x1_6 x2_6 x3_6 (a0 10 x5_6.toNatClampNeg)).bind fun r6 => gd (inB x5_6 6) (if (a0 11 x5_6.toNatClampNeg) = 1 then N_X12_couldHold_61 f0 g0 a0 x1_6 x2_6 x3_6 x5_6 1 r6 else N_X12_couldHold_61 f0 g0 a0 x1_6 x2_6 x3_6 x5_6 0 r6)) else N_X12_couldHold_64 f0 g0 a0 x1_6 x2_6 x3_6 x5_6)
def N_X12_couldHold_6 (f0 : Nat → Int32) (g0 : Nat → Int64) (a0 : Nat → Nat → Int32) (x1_6 : Int32) (x2_6 : Int32) (x3_6 : Int32) (x4_6 : Int32) (x5_6 : Int32) : Option Int32 := lpN (fun q6 : (Int32 × Int32) => B_X12_couldHold_6 f0 g0 a0 x1_6 x2_6 x3_6 q6.1 q6.2) kFu (x4_6, x5_6)
def F_X12_couldHold (f0 : Nat → Int32) (g0 : Nat → Int64) (a0 : Nat → Nat → Int32) (p1 : Int32) (p2 : Int32) (p3 : Int32) : Option Int32 := N_X12_couldHold_6 f0 g0 a0 p1 p2 p3 1 0
set_option maxHeartbeats 4000000 in
set_option maxRecDepth 100000 in
theorem c_X12_couldHold (l : Launch) (hz : Nat) (D : va_G) (ad : Nat → Nat) (ck : Nat → ClassId) (f0 : Nat → Int32) (g0 : Nat → Int64) (a0 : Nat → Nat → Int32) (p1 : Int32) (p2 : Int32) (p3 : Int32) (out : Int32) (hF : F_X12_couldHold f0 g0 a0 p1 p2 p3 = some out) : Met l yX12_couldHold wsX12_couldHold ({ frames := 3, cells := 0, slots := 0, locals := 70 }) (kR hz D vwCl (tM ck) (wM ad ck f0 g0 a0) [.ref (ad 0), .int p1, .int p2, .int p3]) (kZb out) 0 0 (fun _ => False) := by
  refine Met.ofW (cc := cX12_couldHold) (maxL := 6) (ret := (some .boolean)) (by decide) rfl ?_
  intro p e s m args below meth c s₁ B hml hv
  obtain ⟨rfl, hP, hE⟩ := hv
  have hx := B.exec
  have hb := B.bytes
  have hr := B.returns
  have hts := atoms_spec (ws := wsX12_couldHold) B.pre
  have hown : s.vm.findClass RX12 = some m.cls := findClass_of_methodNamed B.named
  have hlocks := B.notSynchronized
  have hK := hE.1
  have hiX12 : ∀ w ∈ u_ws RX12 TX12 31, w ∈ wsX12_couldHold := by decide +kernel
  have hf22 := hts (.fieldLink RX12 22 "SpeltByFriendsModel" "heardWho" "[I") (by decide +kernel)
  have hf25 := hts (.fieldLink RX12 25 "SpeltByFriendsModel" "heardIn" "[I") (by decide +kernel)
  have hf28 := hts (.fieldLink RX12 28 "SpeltByFriendsModel" "heardSo" "[I") (by decide +kernel)
  have hf95 := hts (.fieldLink RX12 95 "SpeltByFriendsModel" "heard" "I") (by decide +kernel)
  have hN_6 : ∀ (x1_6 : Int32) (x2_6 : Int32) (x3_6 : Int32) (n6 : Nat) (x4_6 : Int32) (x5_6 : Int32) (ls : Array Slot), lv_has ls 6 [(0, .ref (ad 0)), (1, .int x1_6), (2, .int x2_6), (3, .int x3_6), (4, .int x4_6), (5, .int x5_6)] → narrow .boolean (.int x4_6) = .int x4_6 → ∀ r : Int32, lpN (fun q6 : (Int32 × Int32) => B_X12_couldHold_6 f0 g0 a0 x1_6 x2_6 x3_6 q6.1 q6.2) n6 (x4_6, x5_6) = some r → (fun r => r = out) r → W p l e (headSpec wsX12_couldHold ({ frames := 3, cells := 0, slots := 0, locals := 70 })).room s m [.ref (ad 0), .int p1, .int p2, .int p3].toArray below meth c s.heap [] 0 0 (MQ below (kZb out) [.ref (ad 0), .int p1, .int p2, .int p3].toArray s 0 0 (fun _ => False)) (F0 m 6 ls []) := by
    intro x1_6 x2_6 x3_6 n6
    induction n6 with
    | zero => intro x4_6 x5_6 ls hl hz_x4_6 r hF hp; exact (lp_z hF).elim
    | succ n6 ih6 =>
      intro x4_6 x5_6 ls hl hz_x4_6 r hF hp
      obtain ⟨rs, hF, hp⟩ := lpN_K (P := (fun r => r = out)) hF hp
      have hN_69 : ∀ (x5_69 : Int32) (t0_69 : Int32) (ls : Array Slot), lv_has ls 6 [(0, .ref (ad 0)), (1, .int x1_6), (2, .int x2_6), (3, .int x3_6), (5, .int x5_69)] → narrow .boolean (.int t0_69) = .int t0_69 → ∀ r : ((Int32 × Int32) ⊕ Int32), N_X12_couldHold_69 f0 g0 a0 x1_6 x2_6 x3_6 x5_69 t0_69 = some r → (lpK (fun q6 : (Int32 × Int32) => B_X12_couldHold_6 f0 g0 a0 x1_6 x2_6 x3_6 q6.1 q6.2) n6 (fun r => r = out)) r → W p l e (headSpec wsX12_couldHold ({ frames := 3, cells := 0, slots := 0, locals := 70 })).room s m [.ref (ad 0), .int p1, .int p2, .int p3].toArray below meth c s.heap [] 0 0 (MQ below (kZb out) [.ref (ad 0), .int p1, .int p2, .int p3].toArray s 0 0 (fun _ => False)) (F0 m 69 ls [.int t0_69]) := by
        intro x5_69 t0_69 ls hl hz_t0_69 r hF hp
        unfold N_X12_couldHold_69 at hF
        refine lv_istore (lv' := [(4, .int t0_69), (0, .ref (ad 0)), (1, .int x1_6), (2, .int x2_6), (3, .int x3_6), (5, .int x5_69)]) hx hb dX12_couldHold_69 hl (by decide) rfl (fun ls hl => ?_)
        refine lv_iinc (v := (x5_69 + 1)) (lv' := [(5, .int (x5_69 + 1)), (4, .int t0_69), (0, .ref (ad 0)), (1, .int x1_6), (2, .int x2_6), (3, .int x3_6)]) hx hb dX12_couldHold_71 hl (k := 5) rfl rfl (by decide) rfl (fun ls hl => ?_)
        refine lv_goto (tgt := 6) hx hb dX12_couldHold_74 (by decide) ?_
        have hF := Option.some.inj hF
        subst hF
        obtain ⟨r, hF, hp⟩ := hp
        exact ih6 t0_69 (x5_69 + 1) ls (lv_sub hl [2, 3, 4, 5, 1, 0] rfl) hz_t0_69 r hF hp
      have hN_68 : ∀ (x5_68 : Int32) (ls : Array Slot), lv_has ls 6 [(0, .ref (ad 0)), (1, .int x1_6), (2, .int x2_6), (3, .int x3_6), (5, .int x5_68)] → ∀ r : ((Int32 × Int32) ⊕ Int32), N_X12_couldHold_68 f0 g0 a0 x1_6 x2_6 x3_6 x5_68 = some r → (lpK (fun q6 : (Int32 × Int32) => B_X12_couldHold_6 f0 g0 a0 x1_6 x2_6 x3_6 q6.1 q6.2) n6 (fun r => r = out)) r → W p l e (headSpec wsX12_couldHold ({ frames := 3, cells := 0, slots := 0, locals := 70 })).room s m [.ref (ad 0), .int p1, .int p2, .int p3].toArray below meth c s.heap [] 0 0 (MQ below (kZb out) [.ref (ad 0), .int p1, .int p2, .int p3].toArray s 0 0 (fun _ => False)) (F0 m 68 ls []) := by
        intro x5_68 ls hl r hF hp
        unfold N_X12_couldHold_68 at hF
        refine lv_iconst (v := 0) hx hb dX12_couldHold_68 (by decide) ?_
        exact hN_69 x5_68 0 ls (lv_sub hl [0, 1, 2, 3, 4] rfl) rfl _ hF hp
      have hN_64 : ∀ (x5_64 : Int32) (ls : Array Slot), lv_has ls 6 [(0, .ref (ad 0)), (1, .int x1_6), (2, .int x2_6), (3, .int x3_6), (5, .int x5_64)] → ∀ r : ((Int32 × Int32) ⊕ Int32), N_X12_couldHold_64 f0 g0 a0 x1_6 x2_6 x3_6 x5_64 = some r → (lpK (fun q6 : (Int32 × Int32) => B_X12_couldHold_6 f0 g0 a0 x1_6 x2_6 x3_6 q6.1 q6.2) n6 (fun r => r = out)) r → W p l e (headSpec wsX12_couldHold ({ frames := 3, cells := 0, slots := 0, locals := 70 })).room s m [.ref (ad 0), .int p1, .int p2, .int p3].toArray below meth c s.heap [] 0 0 (MQ below (kZb out) [.ref (ad 0), .int p1, .int p2, .int p3].toArray s 0 0 (fun _ => False)) (F0 m 64 ls []) := by
        intro x5_64 ls hl r hF hp
        unfold N_X12_couldHold_64 at hF
        refine lv_iconst (v := 1) hx hb dX12_couldHold_64 (by decide) ?_
        refine lv_goto (tgt := 69) hx hb dX12_couldHold_65 (by decide) ?_
        exact hN_69 x5_64 1 ls (lv_sub hl [0, 1, 2, 3, 4] rfl) rfl _ hF hp
      have hN_61 : ∀ (x5_61 : Int32) (t0_61 : Int32) (t1_61 : Int32) (ls : Array Slot), lv_has ls 6 [(0, .ref (ad 0)), (1, .int x1_6), (2, .int x2_6), (3, .int x3_6), (5, .int x5_61)] → narrow .boolean (.int t0_61) = .int t0_61 → narrow .boolean (.int t1_61) = .int t1_61 → ∀ r : ((Int32 × Int32) ⊕ Int32), N_X12_couldHold_61 f0 g0 a0 x1_6 x2_6 x3_6 x5_61 t0_61 t1_61 = some r → (lpK (fun q6 : (Int32 × Int32) => B_X12_couldHold_6 f0 g0 a0 x1_6 x2_6 x3_6 q6.1 q6.2) n6 (fun r => r = out)) r → W p l e (headSpec wsX12_couldHold ({ frames := 3, cells := 0, slots := 0, locals := 70 })).room s m [.ref (ad 0), .int p1, .int p2, .int p3].toArray below meth c s.heap [] 0 0 (MQ below (kZb out) [.ref (ad 0), .int p1, .int p2, .int p3].toArray s 0 0 (fun _ => False)) (F0 m 61 ls [.int t0_61, .int t1_61]) := by
        intro x5_61 t0_61 t1_61 ls hl hz_t0_61 hz_t1_61 r hF hp
        unfold N_X12_couldHold_61 at hF
        refine lv_icmp_ne (tgt := 68) hx hb dX12_couldHold_61 (by decide) (fun hc10 => ?_) (fun hc10 => ?_)
        · have hF := it_n hc10 hF
          exact hN_68 x5_61 ls (lv_sub hl [0, 1, 2, 3, 4] rfl) _ hF hp
        · have hF := it_p hc10 hF
          exact hN_64 x5_61 ls (lv_sub hl [0, 1, 2, 3, 4] rfl) _ hF hp
      unfold B_X12_couldHold_6 at hF
      refine lv_iload hx hb dX12_couldHold_6 (lv_at hl 5 rfl) ?_
      refine lv_aload_n hx hb dX12_couldHold_8 rfl (lv_at hl 0 rfl) ?_
      refine va_get (D := D) (ci := 12) (v := .int (f0 8)) (C := RX12) (T := TX12) (N := 31) hx hb hts hiX12 hown hK hP 0 rfl rfl 8 (by decide) hf95 (fun _ h9 => h9) rfl dX12_couldHold_9 ?_
      refine lv_icmp_ge (tgt := 77) hx hb dX12_couldHold_12 (by decide) (fun hc1 => ?_) (fun hc1 => ?_)
      · have hF := it_p hc1 hF
        obtain ⟨r, hF1, hr0⟩ := mp_s hF
        clear hF
        subst hr0
        have hF := hF1
        clear hF1
        have hp : (fun r => r = out) r := hp
        refine lv_iload hx hb dX12_couldHold_77 (lv_at hl 4 rfl) ?_
        have hv := (Option.some.inj hF).trans hp
        exact W.zret hx hb hr hz_x4_6 (fun t ht hW => ⟨_, rfl, ⟨hv, by rw [← hv]; exact hz_x4_6⟩, ht⟩) (fun q hq => by cases hq) dX12_couldHold_79
      · have hF := it_n hc1 hF
        refine lv_iload hx hb dX12_couldHold_15 (lv_at hl 4 rfl) ?_
        refine lv_if_eq (tgt := 68) hx hb dX12_couldHold_17 (by decide) (fun hc2 => ?_) (fun hc2 => ?_)
        · have hF := it_p hc2 hF
          exact hN_68 x5_6 ls (lv_sub hl [0, 1, 2, 3, 5] rfl) _ hF hp
        · have hF := it_n hc2 hF
          refine lv_aload_n hx hb dX12_couldHold_20 rfl (lv_at hl 0 rfl) ?_
          refine va_get (D := D) (ci := 12) (v := .ref (ad 9)) (C := RX12) (T := TX12) (N := 31) hx hb hts hiX12 hown hK hP 0 rfl rfl 9 (by decide) hf22 (fun _ h9 => h9) rfl dX12_couldHold_21 ?_
          refine lv_iload hx hb dX12_couldHold_24 (lv_at hl 5 rfl) ?_
          obtain ⟨hg3, hF⟩ := gd_s hF
          refine va_iald hx hb hK hP 5 4 rfl rfl (inB_in hg3) dX12_couldHold_26 ?_
          refine lv_iload_n hx hb dX12_couldHold_27 rfl (lv_at hl 1 rfl) ?_
          refine lv_icmp_ne (tgt := 64) hx hb dX12_couldHold_28 (by decide) (fun hc4 => ?_) (fun hc4 => ?_)
          · have hF := it_n hc4 hF
            exact hN_64 x5_6 ls (lv_sub hl [0, 1, 2, 3, 5] rfl) _ hF hp
          · have hF := it_p hc4 hF
            refine lv_aload_n hx hb dX12_couldHold_31 rfl (lv_at hl 0 rfl) ?_
            refine lv_iload_n hx hb dX12_couldHold_32 rfl (lv_at hl 1 rfl) ?_
            refine lv_iload_n hx hb dX12_couldHold_33 rfl (lv_at hl 2 rfl) ?_
            refine lv_iload_n hx hb dX12_couldHold_34 rfl (lv_at hl 3 rfl) ?_
            refine lv_aload_n hx hb dX12_couldHold_35 rfl (lv_at hl 0 rfl) ?_
            refine va_get (D := D) (ci := 12) (v := .ref (ad 10)) (C := RX12) (T := TX12) (N := 31) hx hb hts hiX12 hown hK hP 0 rfl rfl 10 (by decide) hf25 (fun _ h9 => h9) rfl dX12_couldHold_36 ?_
            refine lv_iload hx hb dX12_couldHold_39 (lv_at hl 5 rfl) ?_
            obtain ⟨hg5, hF⟩ := gd_s hF
            refine va_iald hx hb hK hP 6 5 rfl rfl (inB_in hg5) dX12_couldHold_41 ?_
            obtain ⟨r6, he6, hF⟩ := bd_s hF
            refine kS_b (va_runV (As := [.int x1_6, .int x2_6, .int x3_6, .int (a0 10 x5_6.toNatClampNeg)]) (rest := []) ⟨hx, hb, hml, hown, hts⟩ (c_X12_isWrittenBy l hz D ad ck f0 g0 a0 x1_6 x2_6 x3_6 (a0 10 x5_6.toNatClampNeg) r6 he6) (cwV 4 hts gX12_couldHold_X12_isWrittenBy rfl rfl rfl ⟨rfl, pX12_isWrittenBy⟩ ⟨Nat.le_of_ble_eq_true rfl, Nat.le_of_ble_eq_true rfl⟩) (kR.preV (va_recv hK hP (ci := 12) (q0 := 0) rfl rfl) hP hE) rfl rfl hl.1 rfl (lv_room (Nat.le_of_ble_eq_true rfl)) dX12_couldHold_42 ⟨Nat.le_refl _, Nat.le_refl _⟩) (fun hz7 => ?_)
            refine lv_aload_n hx hb dX12_couldHold_45 rfl (lv_at hl 0 rfl) ?_
            refine va_get (D := D) (ci := 12) (v := .ref (ad 11)) (C := RX12) (T := TX12) (N := 31) hx hb hts hiX12 hown hK hP 0 rfl rfl 11 (by decide) hf28 (fun _ h9 => h9) rfl dX12_couldHold_46 ?_
            refine lv_iload hx hb dX12_couldHold_49 (lv_at hl 5 rfl) ?_
            obtain ⟨hg8, hF⟩ := gd_s hF
            refine va_iald hx hb hK hP 7 6 rfl rfl (inB_in hg8) dX12_couldHold_51 ?_
            refine lv_iconst (v := 1) hx hb dX12_couldHold_52 (by decide) ?_
            refine lv_icmp_ne (tgt := 60) hx hb dX12_couldHold_53 (by decide) (fun hc9 => ?_) (fun hc9 => ?_)
            · have hF := it_n hc9 hF
              refine lv_iconst (v := 0) hx hb dX12_couldHold_60 (by decide) ?_
              exact hN_61 x5_6 0 r6 ls (lv_sub hl [0, 1, 2, 3, 5] rfl) rfl hz7 _ hF hp
            · have hF := it_p hc9 hF
              refine lv_iconst (v := 1) hx hb dX12_couldHold_56 (by decide) ?_
              refine lv_goto (tgt := 61) hx hb dX12_couldHold_57 (by decide) ?_
              exact hN_61 x5_6 1 r6 ls (lv_sub hl [0, 1, 2, 3, 5] rfl) rfl hz7 _ hF hp
  have hl := lv_entry ([.ref (ad 0), .int p1, .int p2, .int p3]) (n := 6) (Nat.le_of_ble_eq_true rfl)
  rw [lg_entry_eq]
  generalize (lg_sl ([.ref (ad 0), .int p1, .int p2, .int p3]) ++ List.replicate (6 - (lg_sl ([.ref (ad 0), .int p1, .int p2, .int p3])).length) Slot.unset).toArray = ls at hl ⊢
  have hl : lv_has ls 6 [(0, .ref (ad 0)), (1, .int p1), (2, .int p2), (3, .int p3)] := hl
  obtain ⟨r, hF, hp⟩ : ∃ r, F_X12_couldHold f0 g0 a0 p1 p2 p3 = some r ∧ r = out := ⟨out, hF, rfl⟩
  unfold F_X12_couldHold at hF
  refine lv_iconst (v := 1) hx hb dX12_couldHold_0 (by decide) ?_
  refine lv_istore (lv' := [(4, .int 1), (0, .ref (ad 0)), (1, .int p1), (2, .int p2), (3, .int p3)]) hx hb dX12_couldHold_1 hl (by decide) rfl (fun ls hl => ?_)
  refine lv_iconst (v := 0) hx hb dX12_couldHold_3 (by decide) ?_
  refine lv_istore (lv' := [(5, .int 0), (4, .int 1), (0, .ref (ad 0)), (1, .int p1), (2, .int p2), (3, .int p3)]) hx hb dX12_couldHold_4 hl (by decide) rfl (fun ls hl => ?_)
  exact hN_6 p1 p2 p3 kFu 1 0 ls (lv_sub hl [2, 3, 4, 5, 1, 0] rfl) rfl _ hF hp

def N_X12_holdersNow_85 (f0 : Nat → Int32) (g0 : Nat → Int64) (a0 : Nat → Nat → Int32) (x1_18 : Int32) (x2_18 : Int32) (x3_85 : Int32) (x5_85 : Int32) (t0_85 : Int32) : Option ((Int32 × Int32 × Int32) ⊕ Int32) := some (.inl (x3_85, t0_85, (x5_85 + (-1))))
def N_X12_holdersNow_55 (f0 : Nat → Int32) (g0 : Nat → Int64) (a0 : Nat → Nat → Int32) (x1_18 : Int32) (x2_18 : Int32) (x4_55 : Int32) (x5_55 : Int32) (x6_55 : Int32) (t0_55 : Int32) (t1_55 : Int32) : Option ((Int32 × Int32 × Int32) ⊕ Int32) := if x6_55 = 0 then N_X12_holdersNow_85 f0 g0 a0 x1_18 x2_18 (t1_55 + t0_55) x5_55 x4_55 else gd (nzB (f0 1)) (gd (nzB (f0 1)) (N_X12_holdersNow_85 f0 g0 a0 x1_18 x2_18 (t1_55 + t0_55) x5_55 (((10 : Int32) * (x5_55 / (f0 1))) + (x5_55 - x5_55 / (f0 1) * (f0 1)))))
def B_X12_holdersNow_18 (f0 : Nat → Int32) (g0 : Nat → Int64) (a0 : Nat → Nat → Int32) (x1_18 : Int32) (x2_18 : Int32) (x3_18 : Int32) (x4_18 : Int32) (x5_18 : Int32) : Option ((Int32 × Int32 × Int32) ⊕ Int32) := if x5_18 < 0 then Option.map Sum.inr (if x2_18 = 0 then some x3_18 else some x4_18) else gd (nzB (f0 1)) (gd (nzB (f0 1)) ((F_X12_couldHold f0 g0 a0 x1_18 (x5_18 / (f0 1)) (x5_18 - x5_18 / (f0 1) * (f0 1))).bind fun r5 => if r5 = 0 then N_X12_holdersNow_55 f0 g0 a0 x1_18 x2_18 x4_18 x5_18 r5 0 x3_18 else N_X12_holdersNow_55 f0 g0 a0 x1_18 x2_18 x4_18 x5_18 r5 1 x3_18))
def N_X12_holdersNow_18 (f0 : Nat → Int32) (g0 : Nat → Int64) (a0 : Nat → Nat → Int32) (x1_18 : Int32) (x2_18 : Int32) (x3_18 : Int32) (x4_18 : Int32) (x5_18 : Int32) : Option Int32 := lpN (fun q18 : (Int32 × Int32 × Int32) => B_X12_holdersNow_18 f0 g0 a0 x1_18 x2_18 q18.1 q18.2.1 q18.2.2) kFu (x3_18, x4_18, x5_18)
def F_X12_holdersNow (f0 : Nat → Int32) (g0 : Nat → Int64) (a0 : Nat → Nat → Int32) (p1 : Int32) (p2 : Int32) : Option Int32 := N_X12_holdersNow_18 f0 g0 a0 p1 p2 0 (-1) (((f0 1) * (f0 1)) - (1 : Int32))
set_option maxHeartbeats 4000000 in
set_option maxRecDepth 100000 in
theorem c_X12_holdersNow (l : Launch) (hz : Nat) (D : va_G) (ad : Nat → Nat) (ck : Nat → ClassId) (f0 : Nat → Int32) (g0 : Nat → Int64) (a0 : Nat → Nat → Int32) (p1 : Int32) (p2 : Int32) (out : Int32) (hF : F_X12_holdersNow f0 g0 a0 p1 p2 = some out) : Met l yX12_holdersNow wsX12_holdersNow ({ frames := 4, cells := 0, slots := 0, locals := 95 }) (kR hz D vwCl (tM ck) (wM ad ck f0 g0 a0) [.ref (ad 0), .int p1, .int p2]) (kZi out) 0 0 (fun _ => False) := by
  refine Met.ofW (cc := cX12_holdersNow) (maxL := 7) (ret := (some .int)) (by decide) rfl ?_
  intro p e s m args below meth c s₁ B hml hv
  obtain ⟨rfl, hP, hE⟩ := hv
  have hx := B.exec
  have hb := B.bytes
  have hr := B.returns
  have hts := atoms_spec (ws := wsX12_holdersNow) B.pre
  have hown : s.vm.findClass RX12 = some m.cls := findClass_of_methodNamed B.named
  have hlocks := B.notSynchronized
  have hK := hE.1
  have hiX12 : ∀ w ∈ u_ws RX12 TX12 31, w ∈ wsX12_holdersNow := by decide +kernel
  have hf83 := hts (.fieldLink RX12 83 "SpeltByFriendsModel" "people" "I") (by decide +kernel)
  have hN_18 : ∀ (x1_18 : Int32) (x2_18 : Int32) (n18 : Nat) (x3_18 : Int32) (x4_18 : Int32) (x5_18 : Int32) (ls : Array Slot), lv_has ls 7 [(0, .ref (ad 0)), (1, .int x1_18), (2, .int x2_18), (3, .int x3_18), (4, .int x4_18), (5, .int x5_18)] → ∀ r : Int32, lpN (fun q18 : (Int32 × Int32 × Int32) => B_X12_holdersNow_18 f0 g0 a0 x1_18 x2_18 q18.1 q18.2.1 q18.2.2) n18 (x3_18, x4_18, x5_18) = some r → (fun r => r = out) r → W p l e (headSpec wsX12_holdersNow ({ frames := 4, cells := 0, slots := 0, locals := 95 })).room s m [.ref (ad 0), .int p1, .int p2].toArray below meth c s.heap [] 0 0 (MQ below (kZi out) [.ref (ad 0), .int p1, .int p2].toArray s 0 0 (fun _ => False)) (F0 m 18 ls []) := by
    intro x1_18 x2_18 n18
    induction n18 with
    | zero => intro x3_18 x4_18 x5_18 ls hl r hF hp; exact (lp_z hF).elim
    | succ n18 ih18 =>
      intro x3_18 x4_18 x5_18 ls hl r hF hp
      obtain ⟨rs, hF, hp⟩ := lpN_K (P := (fun r => r = out)) hF hp
      have hN_85 : ∀ (x3_85 : Int32) (x5_85 : Int32) (t0_85 : Int32) (ls : Array Slot), lv_has ls 7 [(0, .ref (ad 0)), (1, .int x1_18), (2, .int x2_18), (3, .int x3_85), (5, .int x5_85)] → ∀ r : ((Int32 × Int32 × Int32) ⊕ Int32), N_X12_holdersNow_85 f0 g0 a0 x1_18 x2_18 x3_85 x5_85 t0_85 = some r → (lpK (fun q18 : (Int32 × Int32 × Int32) => B_X12_holdersNow_18 f0 g0 a0 x1_18 x2_18 q18.1 q18.2.1 q18.2.2) n18 (fun r => r = out)) r → W p l e (headSpec wsX12_holdersNow ({ frames := 4, cells := 0, slots := 0, locals := 95 })).room s m [.ref (ad 0), .int p1, .int p2].toArray below meth c s.heap [] 0 0 (MQ below (kZi out) [.ref (ad 0), .int p1, .int p2].toArray s 0 0 (fun _ => False)) (F0 m 85 ls [.int t0_85]) := by
        intro x3_85 x5_85 t0_85 ls hl r hF hp
        unfold N_X12_holdersNow_85 at hF
        refine lv_istore (lv' := [(4, .int t0_85), (0, .ref (ad 0)), (1, .int x1_18), (2, .int x2_18), (3, .int x3_85), (5, .int x5_85)]) hx hb dX12_holdersNow_85 hl (by decide) rfl (fun ls hl => ?_)
        refine lv_iinc (v := (x5_85 + (-1))) (lv' := [(5, .int (x5_85 + (-1))), (4, .int t0_85), (0, .ref (ad 0)), (1, .int x1_18), (2, .int x2_18), (3, .int x3_85)]) hx hb dX12_holdersNow_87 hl (k := 5) rfl rfl (by decide) rfl (fun ls hl => ?_)
        refine lv_goto (tgt := 18) hx hb dX12_holdersNow_90 (by decide) ?_
        have hF := Option.some.inj hF
        subst hF
        obtain ⟨r, hF, hp⟩ := hp
        exact ih18 x3_85 t0_85 (x5_85 + (-1)) ls (lv_sub hl [2, 3, 4, 5, 1, 0] rfl) r hF hp
      have hN_55 : ∀ (x4_55 : Int32) (x5_55 : Int32) (x6_55 : Int32) (t0_55 : Int32) (t1_55 : Int32) (ls : Array Slot), lv_has ls 7 [(0, .ref (ad 0)), (1, .int x1_18), (2, .int x2_18), (4, .int x4_55), (5, .int x5_55), (6, .int x6_55)] → ∀ r : ((Int32 × Int32 × Int32) ⊕ Int32), N_X12_holdersNow_55 f0 g0 a0 x1_18 x2_18 x4_55 x5_55 x6_55 t0_55 t1_55 = some r → (lpK (fun q18 : (Int32 × Int32 × Int32) => B_X12_holdersNow_18 f0 g0 a0 x1_18 x2_18 q18.1 q18.2.1 q18.2.2) n18 (fun r => r = out)) r → W p l e (headSpec wsX12_holdersNow ({ frames := 4, cells := 0, slots := 0, locals := 95 })).room s m [.ref (ad 0), .int p1, .int p2].toArray below meth c s.heap [] 0 0 (MQ below (kZi out) [.ref (ad 0), .int p1, .int p2].toArray s 0 0 (fun _ => False)) (F0 m 55 ls [.int t0_55, .int t1_55]) := by
        intro x4_55 x5_55 x6_55 t0_55 t1_55 ls hl r hF hp
        unfold N_X12_holdersNow_55 at hF
        refine lv_iadd hx hb dX12_holdersNow_55 ?_
        refine lv_istore_n (lv' := [(3, .int (t1_55 + t0_55)), (0, .ref (ad 0)), (1, .int x1_18), (2, .int x2_18), (4, .int x4_55), (5, .int x5_55), (6, .int x6_55)]) hx hb dX12_holdersNow_56 rfl hl (by decide) rfl (fun ls hl => ?_)
        refine lv_iload hx hb dX12_holdersNow_57 (lv_at hl 6 rfl) ?_
        refine lv_if_eq (tgt := 83) hx hb dX12_holdersNow_59 (by decide) (fun hc8 => ?_) (fun hc8 => ?_)
        · have hF := it_p hc8 hF
          refine lv_iload hx hb dX12_holdersNow_83 (lv_at hl 4 rfl) ?_
          exact hN_85 (t1_55 + t0_55) x5_55 x4_55 ls (lv_sub hl [1, 2, 3, 0, 5] rfl) _ hF hp
        · have hF := it_n hc8 hF
          refine lv_bipush (v := 10) hx hb dX12_holdersNow_62 (by decide) ?_
          refine lv_iload hx hb dX12_holdersNow_64 (lv_at hl 5 rfl) ?_
          refine lv_aload_n hx hb dX12_holdersNow_66 rfl (lv_at hl 1 rfl) ?_
          refine va_get (D := D) (ci := 12) (v := .int (f0 1)) (C := RX12) (T := TX12) (N := 31) hx hb hts hiX12 hown hK hP 0 rfl rfl 1 (by decide) hf83 (fun _ h9 => h9) rfl dX12_holdersNow_67 ?_
          obtain ⟨hg9, hF⟩ := gd_s hF
          refine lv_idiv hx hb dX12_holdersNow_70 (nzB_n hg9) ?_
          refine lv_imul hx hb dX12_holdersNow_71 ?_
          refine lv_iload hx hb dX12_holdersNow_72 (lv_at hl 5 rfl) ?_
          refine lv_aload_n hx hb dX12_holdersNow_74 rfl (lv_at hl 1 rfl) ?_
          refine va_get (D := D) (ci := 12) (v := .int (f0 1)) (C := RX12) (T := TX12) (N := 31) hx hb hts hiX12 hown hK hP 0 rfl rfl 1 (by decide) hf83 (fun _ h9 => h9) rfl dX12_holdersNow_75 ?_
          obtain ⟨hg10, hF⟩ := gd_s hF
          refine lv_irem hx hb dX12_holdersNow_78 (nzB_n hg10) ?_
          refine lv_iadd hx hb dX12_holdersNow_79 ?_
          refine lv_goto (tgt := 85) hx hb dX12_holdersNow_80 (by decide) ?_
          exact hN_85 (t1_55 + t0_55) x5_55 (((10 : Int32) * (x5_55 / (f0 1))) + (x5_55 - x5_55 / (f0 1) * (f0 1))) ls (lv_sub hl [1, 2, 3, 0, 5] rfl) _ hF hp
      unfold B_X12_holdersNow_18 at hF
      refine lv_iload hx hb dX12_holdersNow_18 (lv_at hl 5 rfl) ?_
      refine lv_if_lt (tgt := 93) hx hb dX12_holdersNow_20 (by decide) (fun hc1 => ?_) (fun hc1 => ?_)
      · have hF := it_p hc1 hF
        obtain ⟨r, hF1, hr0⟩ := mp_s hF
        clear hF
        subst hr0
        have hF := hF1
        clear hF1
        have hp : (fun r => r = out) r := hp
        refine lv_iload_n hx hb dX12_holdersNow_93 rfl (lv_at hl 2 rfl) ?_
        refine lv_if_ne (tgt := 101) hx hb dX12_holdersNow_94 (by decide) (fun hc2 => ?_) (fun hc2 => ?_)
        · have hF := it_n hc2 hF
          refine lv_iload hx hb dX12_holdersNow_101 (lv_at hl 4 rfl) ?_
          exact W.iret hx hb hr (fun t ht hW => ⟨_, rfl, (Option.some.inj hF).trans hp, ht⟩) (fun q hq => by cases hq) dX12_holdersNow_103
        · have hF := it_p hc2 hF
          refine lv_iload_n hx hb dX12_holdersNow_97 rfl (lv_at hl 3 rfl) ?_
          refine lv_goto (tgt := 103) hx hb dX12_holdersNow_98 (by decide) ?_
          exact W.iret hx hb hr (fun t ht hW => ⟨_, rfl, (Option.some.inj hF).trans hp, ht⟩) (fun q hq => by cases hq) dX12_holdersNow_103
      · have hF := it_n hc1 hF
        refine lv_aload_n hx hb dX12_holdersNow_23 rfl (lv_at hl 0 rfl) ?_
        refine lv_iload_n hx hb dX12_holdersNow_24 rfl (lv_at hl 1 rfl) ?_
        refine lv_iload hx hb dX12_holdersNow_25 (lv_at hl 5 rfl) ?_
        refine lv_aload_n hx hb dX12_holdersNow_27 rfl (lv_at hl 0 rfl) ?_
        refine va_get (D := D) (ci := 12) (v := .int (f0 1)) (C := RX12) (T := TX12) (N := 31) hx hb hts hiX12 hown hK hP 0 rfl rfl 1 (by decide) hf83 (fun _ h9 => h9) rfl dX12_holdersNow_28 ?_
        obtain ⟨hg3, hF⟩ := gd_s hF
        refine lv_idiv hx hb dX12_holdersNow_31 (nzB_n hg3) ?_
        refine lv_iload hx hb dX12_holdersNow_32 (lv_at hl 5 rfl) ?_
        refine lv_aload_n hx hb dX12_holdersNow_34 rfl (lv_at hl 0 rfl) ?_
        refine va_get (D := D) (ci := 12) (v := .int (f0 1)) (C := RX12) (T := TX12) (N := 31) hx hb hts hiX12 hown hK hP 0 rfl rfl 1 (by decide) hf83 (fun _ h9 => h9) rfl dX12_holdersNow_35 ?_
        obtain ⟨hg4, hF⟩ := gd_s hF
        refine lv_irem hx hb dX12_holdersNow_38 (nzB_n hg4) ?_
        obtain ⟨r5, he5, hF⟩ := bd_s hF
        refine kS_b (va_runV (As := [.int x1_18, .int (x5_18 / (f0 1)), .int (x5_18 - x5_18 / (f0 1) * (f0 1))]) (rest := []) ⟨hx, hb, hml, hown, hts⟩ (c_X12_couldHold l hz D ad ck f0 g0 a0 x1_18 (x5_18 / (f0 1)) (x5_18 - x5_18 / (f0 1) * (f0 1)) r5 he5) (cwV 3 hts gX12_holdersNow_X12_couldHold rfl rfl rfl ⟨rfl, pX12_couldHold⟩ ⟨Nat.le_of_ble_eq_true rfl, Nat.le_of_ble_eq_true rfl⟩) (kR.preV (va_recv hK hP (ci := 12) (q0 := 0) rfl rfl) hP hE) rfl rfl hl.1 rfl (lv_room (Nat.le_of_ble_eq_true rfl)) dX12_holdersNow_39 ⟨Nat.le_refl _, Nat.le_refl _⟩) (fun hz6 => ?_)
        refine lv_istore (lv' := [(6, .int r5), (0, .ref (ad 0)), (1, .int x1_18), (2, .int x2_18), (3, .int x3_18), (4, .int x4_18), (5, .int x5_18)]) hx hb dX12_holdersNow_42 hl (by decide) rfl (fun ls hl => ?_)
        refine lv_iload_n hx hb dX12_holdersNow_44 rfl (lv_at hl 4 rfl) ?_
        refine lv_iload hx hb dX12_holdersNow_45 (lv_at hl 0 rfl) ?_
        refine lv_if_eq (tgt := 54) hx hb dX12_holdersNow_47 (by decide) (fun hc7 => ?_) (fun hc7 => ?_)
        · have hF := it_p hc7 hF
          refine lv_iconst (v := 0) hx hb dX12_holdersNow_54 (by decide) ?_
          exact hN_55 x4_18 x5_18 r5 0 x3_18 ls (lv_sub hl [1, 2, 3, 5, 6, 0] rfl) _ hF hp
        · have hF := it_n hc7 hF
          refine lv_iconst (v := 1) hx hb dX12_holdersNow_50 (by decide) ?_
          refine lv_goto (tgt := 55) hx hb dX12_holdersNow_51 (by decide) ?_
          exact hN_55 x4_18 x5_18 r5 1 x3_18 ls (lv_sub hl [1, 2, 3, 5, 6, 0] rfl) _ hF hp
  have hl := lv_entry ([.ref (ad 0), .int p1, .int p2]) (n := 7) (Nat.le_of_ble_eq_true rfl)
  rw [lg_entry_eq]
  generalize (lg_sl ([.ref (ad 0), .int p1, .int p2]) ++ List.replicate (7 - (lg_sl ([.ref (ad 0), .int p1, .int p2])).length) Slot.unset).toArray = ls at hl ⊢
  have hl : lv_has ls 7 [(0, .ref (ad 0)), (1, .int p1), (2, .int p2)] := hl
  obtain ⟨r, hF, hp⟩ : ∃ r, F_X12_holdersNow f0 g0 a0 p1 p2 = some r ∧ r = out := ⟨out, hF, rfl⟩
  unfold F_X12_holdersNow at hF
  refine lv_iconst (v := 0) hx hb dX12_holdersNow_0 (by decide) ?_
  refine lv_istore_n (lv' := [(3, .int 0), (0, .ref (ad 0)), (1, .int p1), (2, .int p2)]) hx hb dX12_holdersNow_1 rfl hl (by decide) rfl (fun ls hl => ?_)
  refine lv_iconst (v := (-1)) hx hb dX12_holdersNow_2 (by decide) ?_
  refine lv_istore (lv' := [(4, .int (-1)), (3, .int 0), (0, .ref (ad 0)), (1, .int p1), (2, .int p2)]) hx hb dX12_holdersNow_3 hl (by decide) rfl (fun ls hl => ?_)
  refine lv_aload_n hx hb dX12_holdersNow_5 rfl (lv_at hl 2 rfl) ?_
  refine va_get (D := D) (ci := 12) (v := .int (f0 1)) (C := RX12) (T := TX12) (N := 31) hx hb hts hiX12 hown hK hP 0 rfl rfl 1 (by decide) hf83 (fun _ h9 => h9) rfl dX12_holdersNow_6 ?_
  refine lv_aload_n hx hb dX12_holdersNow_9 rfl (lv_at hl 2 rfl) ?_
  refine va_get (D := D) (ci := 12) (v := .int (f0 1)) (C := RX12) (T := TX12) (N := 31) hx hb hts hiX12 hown hK hP 0 rfl rfl 1 (by decide) hf83 (fun _ h9 => h9) rfl dX12_holdersNow_10 ?_
  refine lv_imul hx hb dX12_holdersNow_13 ?_
  refine lv_iconst (v := 1) hx hb dX12_holdersNow_14 (by decide) ?_
  refine lv_isub hx hb dX12_holdersNow_15 ?_
  refine lv_istore (lv' := [(5, .int (((f0 1) * (f0 1)) - (1 : Int32))), (4, .int (-1)), (3, .int 0), (0, .ref (ad 0)), (1, .int p1), (2, .int p2)]) hx hb dX12_holdersNow_16 hl (by decide) rfl (fun ls hl => ?_)
  exact hN_18 p1 p2 kFu 0 (-1) (((f0 1) * (f0 1)) - (1 : Int32)) ls (lv_sub hl [3, 4, 5, 2, 1, 0] rfl) _ hF hp

def F_X12_holders (f0 : Nat → Int32) (g0 : Nat → Int64) (a0 : Nat → Nat → Int32) (p1 : Int32) (p2 : Int32) : Option Int32 := if (F_X12_isOne f0 g0 a0 p1) = 0 then some (-101) else if (F_X12_within p2 0 1) = 0 then some (-102) else (F_X12_holdersNow f0 g0 a0 p1 p2).bind fun r5 => some r5
set_option maxHeartbeats 4000000 in
set_option maxRecDepth 100000 in
theorem c_X12_holders (l : Launch) (hz : Nat) (D : va_G) (ad : Nat → Nat) (ck : Nat → ClassId) (f0 : Nat → Int32) (g0 : Nat → Int64) (a0 : Nat → Nat → Int32) (p1 : Int32) (p2 : Int32) (out : Int32) (hF : F_X12_holders f0 g0 a0 p1 p2 = some out) : Met l yX12_holders wsX12_holders ({ frames := 5, cells := 0, slots := 0, locals := 121 }) (kR hz D vwCl (tM ck) (wM ad ck f0 g0 a0) [.ref (ad 0), .int p1, .int p2]) (kZi out) 0 0 (fun _ => False) := by
  refine Met.ofW (cc := cX12_holders) (maxL := 3) (ret := (some .int)) (by decide) rfl ?_
  intro p e s m args below meth c s₁ B hml hv
  obtain ⟨rfl, hP, hE⟩ := hv
  have hx := B.exec
  have hb := B.bytes
  have hr := B.returns
  have hts := atoms_spec (ws := wsX12_holders) B.pre
  have hown : s.vm.findClass RX12 = some m.cls := findClass_of_methodNamed B.named
  have hlocks := B.notSynchronized
  have hK := hE.1
  have hl := lv_entry ([.ref (ad 0), .int p1, .int p2]) (n := 3) (Nat.le_of_ble_eq_true rfl)
  rw [lg_entry_eq]
  generalize (lg_sl ([.ref (ad 0), .int p1, .int p2]) ++ List.replicate (3 - (lg_sl ([.ref (ad 0), .int p1, .int p2])).length) Slot.unset).toArray = ls at hl ⊢
  have hl : lv_has ls 3 [(0, .ref (ad 0)), (1, .int p1), (2, .int p2)] := hl
  obtain ⟨r, hF, hp⟩ : ∃ r, F_X12_holders f0 g0 a0 p1 p2 = some r ∧ r = out := ⟨out, hF, rfl⟩
  unfold F_X12_holders at hF
  refine lv_aload_n hx hb dX12_holders_0 rfl (lv_at hl 0 rfl) ?_
  refine lv_iload_n hx hb dX12_holders_1 rfl (lv_at hl 1 rfl) ?_
  refine kS_b (va_runV (As := [.int p1]) (rest := []) ⟨hx, hb, hml, hown, hts⟩ (c_X12_isOne l hz D ad ck f0 g0 a0 p1) (cwV 1 hts gX12_holders_X12_isOne rfl rfl rfl ⟨rfl, pX12_isOne⟩ ⟨Nat.le_of_ble_eq_true rfl, Nat.le_of_ble_eq_true rfl⟩) (kR.preV (va_recv hK hP (ci := 12) (q0 := 0) rfl rfl) hP hE) rfl rfl hl.1 rfl (lv_room (Nat.le_of_ble_eq_true rfl)) dX12_holders_2 ⟨Nat.le_refl _, Nat.le_refl _⟩) (fun hz1 => ?_)
  refine lv_if_ne (tgt := 11) hx hb dX12_holders_5 (by decide) (fun hc2 => ?_) (fun hc2 => ?_)
  · have hF := it_n hc2 hF
    refine lv_iload_n hx hb dX12_holders_11 rfl (lv_at hl 2 rfl) ?_
    refine lv_iconst (v := 0) hx hb dX12_holders_12 (by decide) ?_
    refine lv_iconst (v := 1) hx hb dX12_holders_13 (by decide) ?_
    refine kS_b (va_runS (As := [.int p2, .int 0, .int 1]) (rest := []) ⟨hx, hb, hml, hown, hts⟩ (c_X12_within l hz D (tM ck) p2 0 1) (va_cwS 3 hts gX12_holders_X12_within rfl rfl rfl pX12_within ⟨Nat.le_of_ble_eq_true rfl, Nat.le_of_ble_eq_true rfl⟩) (kR.preS kP_nil hE) rfl rfl hl.1 rfl (lv_room (Nat.le_of_ble_eq_true rfl)) dX12_holders_14 ⟨Nat.le_refl _, Nat.le_refl _⟩) (fun hz3 => ?_)
    refine lv_if_eq (tgt := 29) hx hb dX12_holders_17 (by decide) (fun hc4 => ?_) (fun hc4 => ?_)
    · have hF := it_p hc4 hF
      refine lv_bipush (v := (-102)) hx hb dX12_holders_29 (by decide) ?_
      exact W.iret hx hb hr (fun t ht hW => ⟨_, rfl, (Option.some.inj hF).trans hp, ht⟩) (fun q hq => by cases hq) dX12_holders_31
    · have hF := it_n hc4 hF
      refine lv_aload_n hx hb dX12_holders_20 rfl (lv_at hl 0 rfl) ?_
      refine lv_iload_n hx hb dX12_holders_21 rfl (lv_at hl 1 rfl) ?_
      refine lv_iload_n hx hb dX12_holders_22 rfl (lv_at hl 2 rfl) ?_
      obtain ⟨r5, he5, hF⟩ := bd_s hF
      refine kS_i (va_runV (As := [.int p1, .int p2]) (rest := []) ⟨hx, hb, hml, hown, hts⟩ (c_X12_holdersNow l hz D ad ck f0 g0 a0 p1 p2 r5 he5) (cwV 2 hts gX12_holders_X12_holdersNow rfl rfl rfl ⟨rfl, pX12_holdersNow⟩ ⟨Nat.le_of_ble_eq_true rfl, Nat.le_of_ble_eq_true rfl⟩) (kR.preV (va_recv hK hP (ci := 12) (q0 := 0) rfl rfl) hP hE) rfl rfl hl.1 rfl (lv_room (Nat.le_of_ble_eq_true rfl)) dX12_holders_23 ⟨Nat.le_refl _, Nat.le_refl _⟩) ?_
      refine lv_goto (tgt := 31) hx hb dX12_holders_26 (by decide) ?_
      exact W.iret hx hb hr (fun t ht hW => ⟨_, rfl, (Option.some.inj hF).trans hp, ht⟩) (fun q hq => by cases hq) dX12_holders_31
  · have hF := it_p hc2 hF
    refine lv_bipush (v := (-101)) hx hb dX12_holders_8 (by decide) ?_
    exact W.iret hx hb hr (fun t ht hW => ⟨_, rfl, (Option.some.inj hF).trans hp, ht⟩) (fun q hq => by cases hq) dX12_holders_10

def N_X12_writtenWays_68 (f0 : Nat → Int32) (g0 : Nat → Int64) (a0 : Nat → Nat → Int32) (x1_5 : Int32) (x2_5 : Int32) (x4_68 : Int32) (t0_68 : Int32) (t1_68 : Int32) : Option ((Int32 × Int32) ⊕ Int32) := some (.inl ((t1_68 + t0_68), (x4_68 + 1)))
def N_X12_writtenWays_67 (f0 : Nat → Int32) (g0 : Nat → Int64) (a0 : Nat → Nat → Int32) (x1_5 : Int32) (x2_5 : Int32) (x4_67 : Int32) (t0_67 : Int32) : Option ((Int32 × Int32) ⊕ Int32) := N_X12_writtenWays_68 f0 g0 a0 x1_5 x2_5 x4_67 0 t0_67
def B_X12_writtenWays_5 (f0 : Nat → Int32) (g0 : Nat → Int64) (a0 : Nat → Nat → Int32) (x1_5 : Int32) (x2_5 : Int32) (x3_5 : Int32) (x4_5 : Int32) : Option ((Int32 × Int32) ⊕ Int32) := if ((f0 1) * (f0 1)) ≤ x4_5 then Option.map Sum.inr (some x3_5) else gd (nzB (f0 1)) (gd (nzB (f0 1)) ((F_X12_couldHold f0 g0 a0 x1_5 (x4_5 / (f0 1)) (x4_5 - x4_5 / (f0 1) * (f0 1))).bind fun r4 => if r4 = 0 then N_X12_writtenWays_67 f0 g0 a0 x1_5 x2_5 x4_5 x3_5 else (F_X12_isWrittenBy f0 g0 a0 x1_5 (x4_5 / (f0 1)) (x4_5 - x4_5 / (f0 1) * (f0 1)) x2_5).bind fun r7 => if r7 = 0 then N_X12_writtenWays_67 f0 g0 a0 x1_5 x2_5 x4_5 x3_5 else N_X12_writtenWays_68 f0 g0 a0 x1_5 x2_5 x4_5 1 x3_5))
def N_X12_writtenWays_5 (f0 : Nat → Int32) (g0 : Nat → Int64) (a0 : Nat → Nat → Int32) (x1_5 : Int32) (x2_5 : Int32) (x3_5 : Int32) (x4_5 : Int32) : Option Int32 := lpN (fun q5 : (Int32 × Int32) => B_X12_writtenWays_5 f0 g0 a0 x1_5 x2_5 q5.1 q5.2) kFu (x3_5, x4_5)
def F_X12_writtenWays (f0 : Nat → Int32) (g0 : Nat → Int64) (a0 : Nat → Nat → Int32) (p1 : Int32) (p2 : Int32) : Option Int32 := N_X12_writtenWays_5 f0 g0 a0 p1 p2 0 0
set_option maxHeartbeats 4000000 in
set_option maxRecDepth 100000 in
theorem c_X12_writtenWays (l : Launch) (hz : Nat) (D : va_G) (ad : Nat → Nat) (ck : Nat → ClassId) (f0 : Nat → Int32) (g0 : Nat → Int64) (a0 : Nat → Nat → Int32) (p1 : Int32) (p2 : Int32) (out : Int32) (hF : F_X12_writtenWays f0 g0 a0 p1 p2 = some out) : Met l yX12_writtenWays wsX12_writtenWays ({ frames := 4, cells := 0, slots := 0, locals := 95 }) (kR hz D vwCl (tM ck) (wM ad ck f0 g0 a0) [.ref (ad 0), .int p1, .int p2]) (kZi out) 0 0 (fun _ => False) := by
  refine Met.ofW (cc := cX12_writtenWays) (maxL := 7) (ret := (some .int)) (by decide) rfl ?_
  intro p e s m args below meth c s₁ B hml hv
  obtain ⟨rfl, hP, hE⟩ := hv
  have hx := B.exec
  have hb := B.bytes
  have hr := B.returns
  have hts := atoms_spec (ws := wsX12_writtenWays) B.pre
  have hown : s.vm.findClass RX12 = some m.cls := findClass_of_methodNamed B.named
  have hlocks := B.notSynchronized
  have hK := hE.1
  have hiX12 : ∀ w ∈ u_ws RX12 TX12 31, w ∈ wsX12_writtenWays := by decide +kernel
  have hf83 := hts (.fieldLink RX12 83 "SpeltByFriendsModel" "people" "I") (by decide +kernel)
  have hN_5 : ∀ (x1_5 : Int32) (x2_5 : Int32) (n5 : Nat) (x3_5 : Int32) (x4_5 : Int32) (ls : Array Slot), lv_has ls 7 [(0, .ref (ad 0)), (1, .int x1_5), (2, .int x2_5), (3, .int x3_5), (4, .int x4_5)] → ∀ r : Int32, lpN (fun q5 : (Int32 × Int32) => B_X12_writtenWays_5 f0 g0 a0 x1_5 x2_5 q5.1 q5.2) n5 (x3_5, x4_5) = some r → (fun r => r = out) r → W p l e (headSpec wsX12_writtenWays ({ frames := 4, cells := 0, slots := 0, locals := 95 })).room s m [.ref (ad 0), .int p1, .int p2].toArray below meth c s.heap [] 0 0 (MQ below (kZi out) [.ref (ad 0), .int p1, .int p2].toArray s 0 0 (fun _ => False)) (F0 m 5 ls []) := by
    intro x1_5 x2_5 n5
    induction n5 with
    | zero => intro x3_5 x4_5 ls hl r hF hp; exact (lp_z hF).elim
    | succ n5 ih5 =>
      intro x3_5 x4_5 ls hl r hF hp
      obtain ⟨rs, hF, hp⟩ := lpN_K (P := (fun r => r = out)) hF hp
      have hN_68 : ∀ (x4_68 : Int32) (t0_68 : Int32) (t1_68 : Int32) (ls : Array Slot), lv_has ls 7 [(0, .ref (ad 0)), (1, .int x1_5), (2, .int x2_5), (4, .int x4_68)] → ∀ r : ((Int32 × Int32) ⊕ Int32), N_X12_writtenWays_68 f0 g0 a0 x1_5 x2_5 x4_68 t0_68 t1_68 = some r → (lpK (fun q5 : (Int32 × Int32) => B_X12_writtenWays_5 f0 g0 a0 x1_5 x2_5 q5.1 q5.2) n5 (fun r => r = out)) r → W p l e (headSpec wsX12_writtenWays ({ frames := 4, cells := 0, slots := 0, locals := 95 })).room s m [.ref (ad 0), .int p1, .int p2].toArray below meth c s.heap [] 0 0 (MQ below (kZi out) [.ref (ad 0), .int p1, .int p2].toArray s 0 0 (fun _ => False)) (F0 m 68 ls [.int t0_68, .int t1_68]) := by
        intro x4_68 t0_68 t1_68 ls hl r hF hp
        unfold N_X12_writtenWays_68 at hF
        refine lv_iadd hx hb dX12_writtenWays_68 ?_
        refine lv_istore_n (lv' := [(3, .int (t1_68 + t0_68)), (0, .ref (ad 0)), (1, .int x1_5), (2, .int x2_5), (4, .int x4_68)]) hx hb dX12_writtenWays_69 rfl hl (by decide) rfl (fun ls hl => ?_)
        refine lv_iinc (v := (x4_68 + 1)) (lv' := [(4, .int (x4_68 + 1)), (3, .int (t1_68 + t0_68)), (0, .ref (ad 0)), (1, .int x1_5), (2, .int x2_5)]) hx hb dX12_writtenWays_70 hl (k := 4) rfl rfl (by decide) rfl (fun ls hl => ?_)
        refine lv_goto (tgt := 5) hx hb dX12_writtenWays_73 (by decide) ?_
        have hF := Option.some.inj hF
        subst hF
        obtain ⟨r, hF, hp⟩ := hp
        exact ih5 (t1_68 + t0_68) (x4_68 + 1) ls (lv_sub hl [2, 3, 4, 1, 0] rfl) r hF hp
      have hN_67 : ∀ (x4_67 : Int32) (t0_67 : Int32) (ls : Array Slot), lv_has ls 7 [(0, .ref (ad 0)), (1, .int x1_5), (2, .int x2_5), (4, .int x4_67)] → ∀ r : ((Int32 × Int32) ⊕ Int32), N_X12_writtenWays_67 f0 g0 a0 x1_5 x2_5 x4_67 t0_67 = some r → (lpK (fun q5 : (Int32 × Int32) => B_X12_writtenWays_5 f0 g0 a0 x1_5 x2_5 q5.1 q5.2) n5 (fun r => r = out)) r → W p l e (headSpec wsX12_writtenWays ({ frames := 4, cells := 0, slots := 0, locals := 95 })).room s m [.ref (ad 0), .int p1, .int p2].toArray below meth c s.heap [] 0 0 (MQ below (kZi out) [.ref (ad 0), .int p1, .int p2].toArray s 0 0 (fun _ => False)) (F0 m 67 ls [.int t0_67]) := by
        intro x4_67 t0_67 ls hl r hF hp
        unfold N_X12_writtenWays_67 at hF
        refine lv_iconst (v := 0) hx hb dX12_writtenWays_67 (by decide) ?_
        exact hN_68 x4_67 0 t0_67 ls (lv_sub hl [0, 1, 2, 3] rfl) _ hF hp
      unfold B_X12_writtenWays_5 at hF
      refine lv_iload hx hb dX12_writtenWays_5 (lv_at hl 4 rfl) ?_
      refine lv_aload_n hx hb dX12_writtenWays_7 rfl (lv_at hl 0 rfl) ?_
      refine va_get (D := D) (ci := 12) (v := .int (f0 1)) (C := RX12) (T := TX12) (N := 31) hx hb hts hiX12 hown hK hP 0 rfl rfl 1 (by decide) hf83 (fun _ h9 => h9) rfl dX12_writtenWays_8 ?_
      refine lv_aload_n hx hb dX12_writtenWays_11 rfl (lv_at hl 0 rfl) ?_
      refine va_get (D := D) (ci := 12) (v := .int (f0 1)) (C := RX12) (T := TX12) (N := 31) hx hb hts hiX12 hown hK hP 0 rfl rfl 1 (by decide) hf83 (fun _ h9 => h9) rfl dX12_writtenWays_12 ?_
      refine lv_imul hx hb dX12_writtenWays_15 ?_
      refine lv_icmp_ge (tgt := 76) hx hb dX12_writtenWays_16 (by decide) (fun hc1 => ?_) (fun hc1 => ?_)
      · have hF := it_p hc1 hF
        obtain ⟨r, hF1, hr0⟩ := mp_s hF
        clear hF
        subst hr0
        have hF := hF1
        clear hF1
        have hp : (fun r => r = out) r := hp
        refine lv_iload_n hx hb dX12_writtenWays_76 rfl (lv_at hl 3 rfl) ?_
        exact W.iret hx hb hr (fun t ht hW => ⟨_, rfl, (Option.some.inj hF).trans hp, ht⟩) (fun q hq => by cases hq) dX12_writtenWays_77
      · have hF := it_n hc1 hF
        refine lv_iload hx hb dX12_writtenWays_19 (lv_at hl 4 rfl) ?_
        refine lv_aload_n hx hb dX12_writtenWays_21 rfl (lv_at hl 0 rfl) ?_
        refine va_get (D := D) (ci := 12) (v := .int (f0 1)) (C := RX12) (T := TX12) (N := 31) hx hb hts hiX12 hown hK hP 0 rfl rfl 1 (by decide) hf83 (fun _ h9 => h9) rfl dX12_writtenWays_22 ?_
        obtain ⟨hg2, hF⟩ := gd_s hF
        refine lv_idiv hx hb dX12_writtenWays_25 (nzB_n hg2) ?_
        refine lv_istore (lv' := [(5, .int (x4_5 / (f0 1))), (0, .ref (ad 0)), (1, .int x1_5), (2, .int x2_5), (3, .int x3_5), (4, .int x4_5)]) hx hb dX12_writtenWays_26 hl (by decide) rfl (fun ls hl => ?_)
        refine lv_iload hx hb dX12_writtenWays_28 (lv_at hl 5 rfl) ?_
        refine lv_aload_n hx hb dX12_writtenWays_30 rfl (lv_at hl 1 rfl) ?_
        refine va_get (D := D) (ci := 12) (v := .int (f0 1)) (C := RX12) (T := TX12) (N := 31) hx hb hts hiX12 hown hK hP 0 rfl rfl 1 (by decide) hf83 (fun _ h9 => h9) rfl dX12_writtenWays_31 ?_
        obtain ⟨hg3, hF⟩ := gd_s hF
        refine lv_irem hx hb dX12_writtenWays_34 (nzB_n hg3) ?_
        refine lv_istore (lv' := [(6, .int (x4_5 - x4_5 / (f0 1) * (f0 1))), (5, .int (x4_5 / (f0 1))), (0, .ref (ad 0)), (1, .int x1_5), (2, .int x2_5), (3, .int x3_5), (4, .int x4_5)]) hx hb dX12_writtenWays_35 hl (by decide) rfl (fun ls hl => ?_)
        refine lv_iload_n hx hb dX12_writtenWays_37 rfl (lv_at hl 5 rfl) ?_
        refine lv_aload_n hx hb dX12_writtenWays_38 rfl (lv_at hl 2 rfl) ?_
        refine lv_iload_n hx hb dX12_writtenWays_39 rfl (lv_at hl 3 rfl) ?_
        refine lv_iload hx hb dX12_writtenWays_40 (lv_at hl 1 rfl) ?_
        refine lv_iload hx hb dX12_writtenWays_42 (lv_at hl 0 rfl) ?_
        obtain ⟨r4, he4, hF⟩ := bd_s hF
        refine kS_b (va_runV (As := [.int x1_5, .int (x4_5 / (f0 1)), .int (x4_5 - x4_5 / (f0 1) * (f0 1))]) (rest := [.int x3_5]) ⟨hx, hb, hml, hown, hts⟩ (c_X12_couldHold l hz D ad ck f0 g0 a0 x1_5 (x4_5 / (f0 1)) (x4_5 - x4_5 / (f0 1) * (f0 1)) r4 he4) (cwV 3 hts gX12_writtenWays_X12_couldHold rfl rfl rfl ⟨rfl, pX12_couldHold⟩ ⟨Nat.le_of_ble_eq_true rfl, Nat.le_of_ble_eq_true rfl⟩) (kR.preV (va_recv hK hP (ci := 12) (q0 := 0) rfl rfl) hP hE) rfl rfl hl.1 rfl (lv_room (Nat.le_of_ble_eq_true rfl)) dX12_writtenWays_44 ⟨Nat.le_refl _, Nat.le_refl _⟩) (fun hz5 => ?_)
        refine lv_if_eq (tgt := 67) hx hb dX12_writtenWays_47 (by decide) (fun hc6 => ?_) (fun hc6 => ?_)
        · have hF := it_p hc6 hF
          exact hN_67 x4_5 x3_5 ls (lv_sub hl [2, 3, 4, 6] rfl) _ hF hp
        · have hF := it_n hc6 hF
          refine lv_aload_n hx hb dX12_writtenWays_50 rfl (lv_at hl 2 rfl) ?_
          refine lv_iload_n hx hb dX12_writtenWays_51 rfl (lv_at hl 3 rfl) ?_
          refine lv_iload hx hb dX12_writtenWays_52 (lv_at hl 1 rfl) ?_
          refine lv_iload hx hb dX12_writtenWays_54 (lv_at hl 0 rfl) ?_
          refine lv_iload_n hx hb dX12_writtenWays_56 rfl (lv_at hl 4 rfl) ?_
          obtain ⟨r7, he7, hF⟩ := bd_s hF
          refine kS_b (va_runV (As := [.int x1_5, .int (x4_5 / (f0 1)), .int (x4_5 - x4_5 / (f0 1) * (f0 1)), .int x2_5]) (rest := [.int x3_5]) ⟨hx, hb, hml, hown, hts⟩ (c_X12_isWrittenBy l hz D ad ck f0 g0 a0 x1_5 (x4_5 / (f0 1)) (x4_5 - x4_5 / (f0 1) * (f0 1)) x2_5 r7 he7) (cwV 4 hts gX12_writtenWays_X12_isWrittenBy rfl rfl rfl ⟨rfl, pX12_isWrittenBy⟩ ⟨Nat.le_of_ble_eq_true rfl, Nat.le_of_ble_eq_true rfl⟩) (kR.preV (va_recv hK hP (ci := 12) (q0 := 0) rfl rfl) hP hE) rfl rfl hl.1 rfl (lv_room (Nat.le_of_ble_eq_true rfl)) dX12_writtenWays_57 ⟨Nat.le_refl _, Nat.le_refl _⟩) (fun hz8 => ?_)
          refine lv_if_eq (tgt := 67) hx hb dX12_writtenWays_60 (by decide) (fun hc9 => ?_) (fun hc9 => ?_)
          · have hF := it_p hc9 hF
            exact hN_67 x4_5 x3_5 ls (lv_sub hl [2, 3, 4, 6] rfl) _ hF hp
          · have hF := it_n hc9 hF
            refine lv_iconst (v := 1) hx hb dX12_writtenWays_63 (by decide) ?_
            refine lv_goto (tgt := 68) hx hb dX12_writtenWays_64 (by decide) ?_
            exact hN_68 x4_5 1 x3_5 ls (lv_sub hl [2, 3, 4, 6] rfl) _ hF hp
  have hl := lv_entry ([.ref (ad 0), .int p1, .int p2]) (n := 7) (Nat.le_of_ble_eq_true rfl)
  rw [lg_entry_eq]
  generalize (lg_sl ([.ref (ad 0), .int p1, .int p2]) ++ List.replicate (7 - (lg_sl ([.ref (ad 0), .int p1, .int p2])).length) Slot.unset).toArray = ls at hl ⊢
  have hl : lv_has ls 7 [(0, .ref (ad 0)), (1, .int p1), (2, .int p2)] := hl
  obtain ⟨r, hF, hp⟩ : ∃ r, F_X12_writtenWays f0 g0 a0 p1 p2 = some r ∧ r = out := ⟨out, hF, rfl⟩
  unfold F_X12_writtenWays at hF
  refine lv_iconst (v := 0) hx hb dX12_writtenWays_0 (by decide) ?_
  refine lv_istore_n (lv' := [(3, .int 0), (0, .ref (ad 0)), (1, .int p1), (2, .int p2)]) hx hb dX12_writtenWays_1 rfl hl (by decide) rfl (fun ls hl => ?_)
  refine lv_iconst (v := 0) hx hb dX12_writtenWays_2 (by decide) ?_
  refine lv_istore (lv' := [(4, .int 0), (3, .int 0), (0, .ref (ad 0)), (1, .int p1), (2, .int p2)]) hx hb dX12_writtenWays_3 hl (by decide) rfl (fun ls hl => ?_)
  exact hN_5 p1 p2 kFu 0 0 ls (lv_sub hl [2, 3, 4, 1, 0] rfl) _ hF hp

def N_X12_inviteNow_99 (f0 : Nat → Int32) (g0 : Nat → Int64) (a0 : Nat → Nat → Int32) (x1_16 : Int32) (x2_16 : Int32) (x3_99 : Int32) (x4_99 : Int32) (x5_99 : Int32) : Option ((Int32 × Int32 × Int32) ⊕ Int32) := some (.inl (x3_99, x4_99, (x5_99 + 1)))
def N_X12_inviteNow_97 (f0 : Nat → Int32) (g0 : Nat → Int64) (a0 : Nat → Nat → Int32) (x1_16 : Int32) (x2_16 : Int32) (x3_97 : Int32) (x5_97 : Int32) (t0_97 : Int32) : Option ((Int32 × Int32 × Int32) ⊕ Int32) := N_X12_inviteNow_99 f0 g0 a0 x1_16 x2_16 x3_97 t0_97 x5_97
def N_X12_inviteNow_82 (f0 : Nat → Int32) (g0 : Nat → Int64) (a0 : Nat → Nat → Int32) (x1_16 : Int32) (x2_16 : Int32) (x4_82 : Int32) (x5_82 : Int32) (x7_82 : Int32) (t0_82 : Int32) : Option ((Int32 × Int32 × Int32) ⊕ Int32) := if x4_82 ≤ x7_82 then N_X12_inviteNow_97 f0 g0 a0 x1_16 x2_16 t0_82 x5_82 x4_82 else N_X12_inviteNow_97 f0 g0 a0 x1_16 x2_16 t0_82 x5_82 x7_82
def N_X12_inviteNow_67 (f0 : Nat → Int32) (g0 : Nat → Int64) (a0 : Nat → Nat → Int32) (x1_16 : Int32) (x2_16 : Int32) (x3_67 : Int32) (x4_67 : Int32) (x5_67 : Int32) (t0_67 : Int32) : Option ((Int32 × Int32 × Int32) ⊕ Int32) := if x4_67 ≤ t0_67 then N_X12_inviteNow_82 f0 g0 a0 x1_16 x2_16 x4_67 x5_67 t0_67 x3_67 else N_X12_inviteNow_82 f0 g0 a0 x1_16 x2_16 x4_67 x5_67 t0_67 x5_67
def B_X12_inviteNow_16 (f0 : Nat → Int32) (g0 : Nat → Int64) (a0 : Nat → Nat → Int32) (x1_16 : Int32) (x2_16 : Int32) (x3_16 : Int32) (x4_16 : Int32) (x5_16 : Int32) : Option ((Int32 × Int32 × Int32) ⊕ Int32) := if ((1 : Int32) <<< ((f0 1) &&& 31)) ≤ x5_16 then Option.map Sum.inr (some x3_16) else if x2_16 ≤ 0 then Option.map Sum.inr (some x3_16) else if (F_X12_isIn x5_16 x1_16) = 0 then N_X12_inviteNow_99 f0 g0 a0 x1_16 x2_16 x3_16 x4_16 x5_16 else (F_X12_writtenWays f0 g0 a0 x1_16 x5_16).bind fun r6 => if r6 ≤ (x2_16 - r6) then N_X12_inviteNow_67 f0 g0 a0 x1_16 x2_16 x3_16 x4_16 x5_16 (x2_16 - r6) else N_X12_inviteNow_67 f0 g0 a0 x1_16 x2_16 x3_16 x4_16 x5_16 r6
def N_X12_inviteNow_16 (f0 : Nat → Int32) (g0 : Nat → Int64) (a0 : Nat → Nat → Int32) (x1_16 : Int32) (x2_16 : Int32) (x3_16 : Int32) (x4_16 : Int32) (x5_16 : Int32) : Option Int32 := lpN (fun q16 : (Int32 × Int32 × Int32) => B_X12_inviteNow_16 f0 g0 a0 x1_16 x2_16 q16.1 q16.2.1 q16.2.2) kFu (x3_16, x4_16, x5_16)
def F_X12_inviteNow (f0 : Nat → Int32) (g0 : Nat → Int64) (a0 : Nat → Nat → Int32) (p1 : Int32) : Option Int32 := (F_X12_holdersNow f0 g0 a0 p1 0).bind fun r1 => N_X12_inviteNow_16 f0 g0 a0 p1 r1 (-1) 268435456 0
set_option maxHeartbeats 4000000 in
set_option maxRecDepth 100000 in
theorem c_X12_inviteNow (l : Launch) (hz : Nat) (D : va_G) (ad : Nat → Nat) (ck : Nat → ClassId) (f0 : Nat → Int32) (g0 : Nat → Int64) (a0 : Nat → Nat → Int32) (p1 : Int32) (out : Int32) (hF : F_X12_inviteNow f0 g0 a0 p1 = some out) : Met l yX12_inviteNow wsX12_inviteNow ({ frames := 5, cells := 0, slots := 0, locals := 121 }) (kR hz D vwCl (tM ck) (wM ad ck f0 g0 a0) [.ref (ad 0), .int p1]) (kZi out) 0 0 (fun _ => False) := by
  refine Met.ofW (cc := cX12_inviteNow) (maxL := 8) (ret := (some .int)) (by decide) rfl ?_
  intro p e s m args below meth c s₁ B hml hv
  obtain ⟨rfl, hP, hE⟩ := hv
  have hx := B.exec
  have hb := B.bytes
  have hr := B.returns
  have hts := atoms_spec (ws := wsX12_inviteNow) B.pre
  have hown : s.vm.findClass RX12 = some m.cls := findClass_of_methodNamed B.named
  have hlocks := B.notSynchronized
  have hK := hE.1
  have hiX12 : ∀ w ∈ u_ws RX12 TX12 31, w ∈ wsX12_inviteNow := by decide +kernel
  have hf83 := hts (.fieldLink RX12 83 "SpeltByFriendsModel" "people" "I") (by decide +kernel)
  have hN_16 : ∀ (x1_16 : Int32) (x2_16 : Int32) (n16 : Nat) (x3_16 : Int32) (x4_16 : Int32) (x5_16 : Int32) (ls : Array Slot), lv_has ls 8 [(0, .ref (ad 0)), (1, .int x1_16), (2, .int x2_16), (3, .int x3_16), (4, .int x4_16), (5, .int x5_16)] → ∀ r : Int32, lpN (fun q16 : (Int32 × Int32 × Int32) => B_X12_inviteNow_16 f0 g0 a0 x1_16 x2_16 q16.1 q16.2.1 q16.2.2) n16 (x3_16, x4_16, x5_16) = some r → (fun r => r = out) r → W p l e (headSpec wsX12_inviteNow ({ frames := 5, cells := 0, slots := 0, locals := 121 })).room s m [.ref (ad 0), .int p1].toArray below meth c s.heap [] 0 0 (MQ below (kZi out) [.ref (ad 0), .int p1].toArray s 0 0 (fun _ => False)) (F0 m 16 ls []) := by
    intro x1_16 x2_16 n16
    induction n16 with
    | zero => intro x3_16 x4_16 x5_16 ls hl r hF hp; exact (lp_z hF).elim
    | succ n16 ih16 =>
      intro x3_16 x4_16 x5_16 ls hl r hF hp
      obtain ⟨rs, hF, hp⟩ := lpN_K (P := (fun r => r = out)) hF hp
      have hN_99 : ∀ (x3_99 : Int32) (x4_99 : Int32) (x5_99 : Int32) (ls : Array Slot), lv_has ls 8 [(0, .ref (ad 0)), (1, .int x1_16), (2, .int x2_16), (3, .int x3_99), (4, .int x4_99), (5, .int x5_99)] → ∀ r : ((Int32 × Int32 × Int32) ⊕ Int32), N_X12_inviteNow_99 f0 g0 a0 x1_16 x2_16 x3_99 x4_99 x5_99 = some r → (lpK (fun q16 : (Int32 × Int32 × Int32) => B_X12_inviteNow_16 f0 g0 a0 x1_16 x2_16 q16.1 q16.2.1 q16.2.2) n16 (fun r => r = out)) r → W p l e (headSpec wsX12_inviteNow ({ frames := 5, cells := 0, slots := 0, locals := 121 })).room s m [.ref (ad 0), .int p1].toArray below meth c s.heap [] 0 0 (MQ below (kZi out) [.ref (ad 0), .int p1].toArray s 0 0 (fun _ => False)) (F0 m 99 ls []) := by
        intro x3_99 x4_99 x5_99 ls hl r hF hp
        unfold N_X12_inviteNow_99 at hF
        refine lv_iinc (v := (x5_99 + 1)) (lv' := [(5, .int (x5_99 + 1)), (0, .ref (ad 0)), (1, .int x1_16), (2, .int x2_16), (3, .int x3_99), (4, .int x4_99)]) hx hb dX12_inviteNow_99 hl (k := 5) rfl rfl (by decide) rfl (fun ls hl => ?_)
        refine lv_goto (tgt := 16) hx hb dX12_inviteNow_102 (by decide) ?_
        have hF := Option.some.inj hF
        subst hF
        obtain ⟨r, hF, hp⟩ := hp
        exact ih16 x3_99 x4_99 (x5_99 + 1) ls (lv_sub hl [1, 2, 3, 4, 5, 0] rfl) r hF hp
      have hN_97 : ∀ (x3_97 : Int32) (x5_97 : Int32) (t0_97 : Int32) (ls : Array Slot), lv_has ls 8 [(0, .ref (ad 0)), (1, .int x1_16), (2, .int x2_16), (3, .int x3_97), (5, .int x5_97)] → ∀ r : ((Int32 × Int32 × Int32) ⊕ Int32), N_X12_inviteNow_97 f0 g0 a0 x1_16 x2_16 x3_97 x5_97 t0_97 = some r → (lpK (fun q16 : (Int32 × Int32 × Int32) => B_X12_inviteNow_16 f0 g0 a0 x1_16 x2_16 q16.1 q16.2.1 q16.2.2) n16 (fun r => r = out)) r → W p l e (headSpec wsX12_inviteNow ({ frames := 5, cells := 0, slots := 0, locals := 121 })).room s m [.ref (ad 0), .int p1].toArray below meth c s.heap [] 0 0 (MQ below (kZi out) [.ref (ad 0), .int p1].toArray s 0 0 (fun _ => False)) (F0 m 97 ls [.int t0_97]) := by
        intro x3_97 x5_97 t0_97 ls hl r hF hp
        unfold N_X12_inviteNow_97 at hF
        refine lv_istore (lv' := [(4, .int t0_97), (0, .ref (ad 0)), (1, .int x1_16), (2, .int x2_16), (3, .int x3_97), (5, .int x5_97)]) hx hb dX12_inviteNow_97 hl (by decide) rfl (fun ls hl => ?_)
        exact hN_99 x3_97 t0_97 x5_97 ls (lv_sub hl [1, 2, 3, 4, 0, 5] rfl) _ hF hp
      have hN_82 : ∀ (x4_82 : Int32) (x5_82 : Int32) (x7_82 : Int32) (t0_82 : Int32) (ls : Array Slot), lv_has ls 8 [(0, .ref (ad 0)), (1, .int x1_16), (2, .int x2_16), (4, .int x4_82), (5, .int x5_82), (7, .int x7_82)] → ∀ r : ((Int32 × Int32 × Int32) ⊕ Int32), N_X12_inviteNow_82 f0 g0 a0 x1_16 x2_16 x4_82 x5_82 x7_82 t0_82 = some r → (lpK (fun q16 : (Int32 × Int32 × Int32) => B_X12_inviteNow_16 f0 g0 a0 x1_16 x2_16 q16.1 q16.2.1 q16.2.2) n16 (fun r => r = out)) r → W p l e (headSpec wsX12_inviteNow ({ frames := 5, cells := 0, slots := 0, locals := 121 })).room s m [.ref (ad 0), .int p1].toArray below meth c s.heap [] 0 0 (MQ below (kZi out) [.ref (ad 0), .int p1].toArray s 0 0 (fun _ => False)) (F0 m 82 ls [.int t0_82]) := by
        intro x4_82 x5_82 x7_82 t0_82 ls hl r hF hp
        unfold N_X12_inviteNow_82 at hF
        refine lv_istore_n (lv' := [(3, .int t0_82), (0, .ref (ad 0)), (1, .int x1_16), (2, .int x2_16), (4, .int x4_82), (5, .int x5_82), (7, .int x7_82)]) hx hb dX12_inviteNow_82 rfl hl (by decide) rfl (fun ls hl => ?_)
        refine lv_iload hx hb dX12_inviteNow_83 (lv_at hl 6 rfl) ?_
        refine lv_iload hx hb dX12_inviteNow_85 (lv_at hl 4 rfl) ?_
        refine lv_icmp_ge (tgt := 95) hx hb dX12_inviteNow_87 (by decide) (fun hc9 => ?_) (fun hc9 => ?_)
        · have hF := it_p hc9 hF
          refine lv_iload hx hb dX12_inviteNow_95 (lv_at hl 4 rfl) ?_
          exact hN_97 t0_82 x5_82 x4_82 ls (lv_sub hl [1, 2, 3, 0, 5] rfl) _ hF hp
        · have hF := it_n hc9 hF
          refine lv_iload hx hb dX12_inviteNow_90 (lv_at hl 6 rfl) ?_
          refine lv_goto (tgt := 97) hx hb dX12_inviteNow_92 (by decide) ?_
          exact hN_97 t0_82 x5_82 x7_82 ls (lv_sub hl [1, 2, 3, 0, 5] rfl) _ hF hp
      have hN_67 : ∀ (x3_67 : Int32) (x4_67 : Int32) (x5_67 : Int32) (t0_67 : Int32) (ls : Array Slot), lv_has ls 8 [(0, .ref (ad 0)), (1, .int x1_16), (2, .int x2_16), (3, .int x3_67), (4, .int x4_67), (5, .int x5_67)] → ∀ r : ((Int32 × Int32 × Int32) ⊕ Int32), N_X12_inviteNow_67 f0 g0 a0 x1_16 x2_16 x3_67 x4_67 x5_67 t0_67 = some r → (lpK (fun q16 : (Int32 × Int32 × Int32) => B_X12_inviteNow_16 f0 g0 a0 x1_16 x2_16 q16.1 q16.2.1 q16.2.2) n16 (fun r => r = out)) r → W p l e (headSpec wsX12_inviteNow ({ frames := 5, cells := 0, slots := 0, locals := 121 })).room s m [.ref (ad 0), .int p1].toArray below meth c s.heap [] 0 0 (MQ below (kZi out) [.ref (ad 0), .int p1].toArray s 0 0 (fun _ => False)) (F0 m 67 ls [.int t0_67]) := by
        intro x3_67 x4_67 x5_67 t0_67 ls hl r hF hp
        unfold N_X12_inviteNow_67 at hF
        refine lv_istore (lv' := [(7, .int t0_67), (0, .ref (ad 0)), (1, .int x1_16), (2, .int x2_16), (3, .int x3_67), (4, .int x4_67), (5, .int x5_67)]) hx hb dX12_inviteNow_67 hl (by decide) rfl (fun ls hl => ?_)
        refine lv_iload hx hb dX12_inviteNow_69 (lv_at hl 0 rfl) ?_
        refine lv_iload hx hb dX12_inviteNow_71 (lv_at hl 5 rfl) ?_
        refine lv_icmp_ge (tgt := 81) hx hb dX12_inviteNow_73 (by decide) (fun hc8 => ?_) (fun hc8 => ?_)
        · have hF := it_p hc8 hF
          refine lv_iload_n hx hb dX12_inviteNow_81 rfl (lv_at hl 4 rfl) ?_
          exact hN_82 x4_67 x5_67 t0_67 x3_67 ls (lv_sub hl [1, 2, 3, 5, 6, 0] rfl) _ hF hp
        · have hF := it_n hc8 hF
          refine lv_iload hx hb dX12_inviteNow_76 (lv_at hl 6 rfl) ?_
          refine lv_goto (tgt := 82) hx hb dX12_inviteNow_78 (by decide) ?_
          exact hN_82 x4_67 x5_67 t0_67 x5_67 ls (lv_sub hl [1, 2, 3, 5, 6, 0] rfl) _ hF hp
      unfold B_X12_inviteNow_16 at hF
      refine lv_iload hx hb dX12_inviteNow_16 (lv_at hl 5 rfl) ?_
      refine lv_iconst (v := 1) hx hb dX12_inviteNow_18 (by decide) ?_
      refine lv_aload_n hx hb dX12_inviteNow_19 rfl (lv_at hl 0 rfl) ?_
      refine va_get (D := D) (ci := 12) (v := .int (f0 1)) (C := RX12) (T := TX12) (N := 31) hx hb hts hiX12 hown hK hP 0 rfl rfl 1 (by decide) hf83 (fun _ h9 => h9) rfl dX12_inviteNow_20 ?_
      refine lv_ishl hx hb dX12_inviteNow_23 ?_
      refine lv_icmp_ge (tgt := 105) hx hb dX12_inviteNow_24 (by decide) (fun hc2 => ?_) (fun hc2 => ?_)
      · have hF := it_p hc2 hF
        obtain ⟨r, hF1, hr0⟩ := mp_s hF
        clear hF
        subst hr0
        have hF := hF1
        clear hF1
        have hp : (fun r => r = out) r := hp
        refine lv_iload_n hx hb dX12_inviteNow_105 rfl (lv_at hl 3 rfl) ?_
        exact W.iret hx hb hr (fun t ht hW => ⟨_, rfl, (Option.some.inj hF).trans hp, ht⟩) (fun q hq => by cases hq) dX12_inviteNow_106
      · have hF := it_n hc2 hF
        refine lv_iload_n hx hb dX12_inviteNow_27 rfl (lv_at hl 2 rfl) ?_
        refine lv_if_le (tgt := 105) hx hb dX12_inviteNow_28 (by decide) (fun hc3 => ?_) (fun hc3 => ?_)
        · have hF := it_p hc3 hF
          obtain ⟨r, hF1, hr0⟩ := mp_s hF
          clear hF
          subst hr0
          have hF := hF1
          clear hF1
          have hp : (fun r => r = out) r := hp
          refine lv_iload_n hx hb dX12_inviteNow_105 rfl (lv_at hl 3 rfl) ?_
          exact W.iret hx hb hr (fun t ht hW => ⟨_, rfl, (Option.some.inj hF).trans hp, ht⟩) (fun q hq => by cases hq) dX12_inviteNow_106
        · have hF := it_n hc3 hF
          refine lv_iload hx hb dX12_inviteNow_31 (lv_at hl 5 rfl) ?_
          refine lv_iload_n hx hb dX12_inviteNow_33 rfl (lv_at hl 1 rfl) ?_
          refine kS_b (va_runS (As := [.int x5_16, .int x1_16]) (rest := []) ⟨hx, hb, hml, hown, hts⟩ (c_X12_isIn l hz D (tM ck) x5_16 x1_16) (va_cwS 2 hts gX12_inviteNow_X12_isIn rfl rfl rfl pX12_isIn ⟨Nat.le_of_ble_eq_true rfl, Nat.le_of_ble_eq_true rfl⟩) (kR.preS kP_nil hE) rfl rfl hl.1 rfl (lv_room (Nat.le_of_ble_eq_true rfl)) dX12_inviteNow_34 ⟨Nat.le_refl _, Nat.le_refl _⟩) (fun hz4 => ?_)
          refine lv_if_eq (tgt := 99) hx hb dX12_inviteNow_37 (by decide) (fun hc5 => ?_) (fun hc5 => ?_)
          · have hF := it_p hc5 hF
            exact hN_99 x3_16 x4_16 x5_16 ls (lv_sub hl [0, 1, 2, 3, 4, 5] rfl) _ hF hp
          · have hF := it_n hc5 hF
            refine lv_aload_n hx hb dX12_inviteNow_40 rfl (lv_at hl 0 rfl) ?_
            refine lv_iload_n hx hb dX12_inviteNow_41 rfl (lv_at hl 1 rfl) ?_
            refine lv_iload hx hb dX12_inviteNow_42 (lv_at hl 5 rfl) ?_
            obtain ⟨r6, he6, hF⟩ := bd_s hF
            refine kS_i (va_runV (As := [.int x1_16, .int x5_16]) (rest := []) ⟨hx, hb, hml, hown, hts⟩ (c_X12_writtenWays l hz D ad ck f0 g0 a0 x1_16 x5_16 r6 he6) (cwV 2 hts gX12_inviteNow_X12_writtenWays rfl rfl rfl ⟨rfl, pX12_writtenWays⟩ ⟨Nat.le_of_ble_eq_true rfl, Nat.le_of_ble_eq_true rfl⟩) (kR.preV (va_recv hK hP (ci := 12) (q0 := 0) rfl rfl) hP hE) rfl rfl hl.1 rfl (lv_room (Nat.le_of_ble_eq_true rfl)) dX12_inviteNow_44 ⟨Nat.le_refl _, Nat.le_refl _⟩) ?_
            refine lv_istore (lv' := [(6, .int r6), (0, .ref (ad 0)), (1, .int x1_16), (2, .int x2_16), (3, .int x3_16), (4, .int x4_16), (5, .int x5_16)]) hx hb dX12_inviteNow_47 hl (by decide) rfl (fun ls hl => ?_)
            refine lv_iload hx hb dX12_inviteNow_49 (lv_at hl 0 rfl) ?_
            refine lv_iload_n hx hb dX12_inviteNow_51 rfl (lv_at hl 3 rfl) ?_
            refine lv_iload hx hb dX12_inviteNow_52 (lv_at hl 0 rfl) ?_
            refine lv_isub hx hb dX12_inviteNow_54 ?_
            refine lv_icmp_le (tgt := 63) hx hb dX12_inviteNow_55 (by decide) (fun hc7 => ?_) (fun hc7 => ?_)
            · have hF := it_p hc7 hF
              refine lv_iload_n hx hb dX12_inviteNow_63 rfl (lv_at hl 3 rfl) ?_
              refine lv_iload hx hb dX12_inviteNow_64 (lv_at hl 0 rfl) ?_
              refine lv_isub hx hb dX12_inviteNow_66 ?_
              exact hN_67 x3_16 x4_16 x5_16 (x2_16 - r6) ls (lv_sub hl [1, 2, 3, 4, 5, 6] rfl) _ hF hp
            · have hF := it_n hc7 hF
              refine lv_iload hx hb dX12_inviteNow_58 (lv_at hl 0 rfl) ?_
              refine lv_goto (tgt := 67) hx hb dX12_inviteNow_60 (by decide) ?_
              exact hN_67 x3_16 x4_16 x5_16 r6 ls (lv_sub hl [1, 2, 3, 4, 5, 6] rfl) _ hF hp
  have hl := lv_entry ([.ref (ad 0), .int p1]) (n := 8) (Nat.le_of_ble_eq_true rfl)
  rw [lg_entry_eq]
  generalize (lg_sl ([.ref (ad 0), .int p1]) ++ List.replicate (8 - (lg_sl ([.ref (ad 0), .int p1])).length) Slot.unset).toArray = ls at hl ⊢
  have hl : lv_has ls 8 [(0, .ref (ad 0)), (1, .int p1)] := hl
  obtain ⟨r, hF, hp⟩ : ∃ r, F_X12_inviteNow f0 g0 a0 p1 = some r ∧ r = out := ⟨out, hF, rfl⟩
  unfold F_X12_inviteNow at hF
  refine lv_aload_n hx hb dX12_inviteNow_0 rfl (lv_at hl 0 rfl) ?_
  refine lv_iload_n hx hb dX12_inviteNow_1 rfl (lv_at hl 1 rfl) ?_
  refine lv_iconst (v := 0) hx hb dX12_inviteNow_2 (by decide) ?_
  obtain ⟨r1, he1, hF⟩ := bd_s hF
  refine kS_i (va_runV (As := [.int p1, .int 0]) (rest := []) ⟨hx, hb, hml, hown, hts⟩ (c_X12_holdersNow l hz D ad ck f0 g0 a0 p1 0 r1 he1) (cwV 2 hts gX12_inviteNow_X12_holdersNow rfl rfl rfl ⟨rfl, pX12_holdersNow⟩ ⟨Nat.le_of_ble_eq_true rfl, Nat.le_of_ble_eq_true rfl⟩) (kR.preV (va_recv hK hP (ci := 12) (q0 := 0) rfl rfl) hP hE) rfl rfl hl.1 rfl (lv_room (Nat.le_of_ble_eq_true rfl)) dX12_inviteNow_3 ⟨Nat.le_refl _, Nat.le_refl _⟩) ?_
  refine lv_istore_n (lv' := [(2, .int r1), (0, .ref (ad 0)), (1, .int p1)]) hx hb dX12_inviteNow_6 rfl hl (by decide) rfl (fun ls hl => ?_)
  refine lv_iconst (v := (-1)) hx hb dX12_inviteNow_7 (by decide) ?_
  refine lv_istore_n (lv' := [(3, .int (-1)), (2, .int r1), (0, .ref (ad 0)), (1, .int p1)]) hx hb dX12_inviteNow_8 rfl hl (by decide) rfl (fun ls hl => ?_)
  refine lv_ldc (v := 268435456) hx hb hown (hts (.constant RX12 141 (268435456)) (by decide +kernel)) dX12_inviteNow_9 ?_
  refine lv_istore (lv' := [(4, .int 268435456), (3, .int (-1)), (2, .int r1), (0, .ref (ad 0)), (1, .int p1)]) hx hb dX12_inviteNow_11 hl (by decide) rfl (fun ls hl => ?_)
  refine lv_iconst (v := 0) hx hb dX12_inviteNow_13 (by decide) ?_
  refine lv_istore (lv' := [(5, .int 0), (4, .int 268435456), (3, .int (-1)), (2, .int r1), (0, .ref (ad 0)), (1, .int p1)]) hx hb dX12_inviteNow_14 hl (by decide) rfl (fun ls hl => ?_)
  exact hN_16 p1 r1 kFu (-1) 268435456 0 ls (lv_sub hl [4, 5, 3, 2, 1, 0] rfl) _ hF hp

def F_X12_invite (f0 : Nat → Int32) (g0 : Nat → Int64) (a0 : Nat → Nat → Int32) (p1 : Int32) : Option Int32 := if (F_X12_isOne f0 g0 a0 p1) = 0 then some (-101) else (F_X12_inviteNow f0 g0 a0 p1).bind fun r3 => some r3
set_option maxHeartbeats 4000000 in
set_option maxRecDepth 100000 in
theorem c_X12_invite (l : Launch) (hz : Nat) (D : va_G) (ad : Nat → Nat) (ck : Nat → ClassId) (f0 : Nat → Int32) (g0 : Nat → Int64) (a0 : Nat → Nat → Int32) (p1 : Int32) (out : Int32) (hF : F_X12_invite f0 g0 a0 p1 = some out) : Met l yX12_invite wsX12_invite ({ frames := 6, cells := 0, slots := 0, locals := 148 }) (kR hz D vwCl (tM ck) (wM ad ck f0 g0 a0) [.ref (ad 0), .int p1]) (kZi out) 0 0 (fun _ => False) := by
  refine Met.ofW (cc := cX12_invite) (maxL := 2) (ret := (some .int)) (by decide) rfl ?_
  intro p e s m args below meth c s₁ B hml hv
  obtain ⟨rfl, hP, hE⟩ := hv
  have hx := B.exec
  have hb := B.bytes
  have hr := B.returns
  have hts := atoms_spec (ws := wsX12_invite) B.pre
  have hown : s.vm.findClass RX12 = some m.cls := findClass_of_methodNamed B.named
  have hlocks := B.notSynchronized
  have hK := hE.1
  have hl := lv_entry ([.ref (ad 0), .int p1]) (n := 2) (Nat.le_of_ble_eq_true rfl)
  rw [lg_entry_eq]
  generalize (lg_sl ([.ref (ad 0), .int p1]) ++ List.replicate (2 - (lg_sl ([.ref (ad 0), .int p1])).length) Slot.unset).toArray = ls at hl ⊢
  have hl : lv_has ls 2 [(0, .ref (ad 0)), (1, .int p1)] := hl
  obtain ⟨r, hF, hp⟩ : ∃ r, F_X12_invite f0 g0 a0 p1 = some r ∧ r = out := ⟨out, hF, rfl⟩
  unfold F_X12_invite at hF
  refine lv_aload_n hx hb dX12_invite_0 rfl (lv_at hl 0 rfl) ?_
  refine lv_iload_n hx hb dX12_invite_1 rfl (lv_at hl 1 rfl) ?_
  refine kS_b (va_runV (As := [.int p1]) (rest := []) ⟨hx, hb, hml, hown, hts⟩ (c_X12_isOne l hz D ad ck f0 g0 a0 p1) (cwV 1 hts gX12_invite_X12_isOne rfl rfl rfl ⟨rfl, pX12_isOne⟩ ⟨Nat.le_of_ble_eq_true rfl, Nat.le_of_ble_eq_true rfl⟩) (kR.preV (va_recv hK hP (ci := 12) (q0 := 0) rfl rfl) hP hE) rfl rfl hl.1 rfl (lv_room (Nat.le_of_ble_eq_true rfl)) dX12_invite_2 ⟨Nat.le_refl _, Nat.le_refl _⟩) (fun hz1 => ?_)
  refine lv_if_eq (tgt := 16) hx hb dX12_invite_5 (by decide) (fun hc2 => ?_) (fun hc2 => ?_)
  · have hF := it_p hc2 hF
    refine lv_bipush (v := (-101)) hx hb dX12_invite_16 (by decide) ?_
    exact W.iret hx hb hr (fun t ht hW => ⟨_, rfl, (Option.some.inj hF).trans hp, ht⟩) (fun q hq => by cases hq) dX12_invite_18
  · have hF := it_n hc2 hF
    refine lv_aload_n hx hb dX12_invite_8 rfl (lv_at hl 0 rfl) ?_
    refine lv_iload_n hx hb dX12_invite_9 rfl (lv_at hl 1 rfl) ?_
    obtain ⟨r3, he3, hF⟩ := bd_s hF
    refine kS_i (va_runV (As := [.int p1]) (rest := []) ⟨hx, hb, hml, hown, hts⟩ (c_X12_inviteNow l hz D ad ck f0 g0 a0 p1 r3 he3) (cwV 1 hts gX12_invite_X12_inviteNow rfl rfl rfl ⟨rfl, pX12_inviteNow⟩ ⟨Nat.le_of_ble_eq_true rfl, Nat.le_of_ble_eq_true rfl⟩) (kR.preV (va_recv hK hP (ci := 12) (q0 := 0) rfl rfl) hP hE) rfl rfl hl.1 rfl (lv_room (Nat.le_of_ble_eq_true rfl)) dX12_invite_10 ⟨Nat.le_refl _, Nat.le_refl _⟩) ?_
    refine lv_goto (tgt := 18) hx hb dX12_invite_13 (by decide) ?_
    exact W.iret hx hb hr (fun t ht hW => ⟨_, rfl, (Option.some.inj hF).trans hp, ht⟩) (fun q hq => by cases hq) dX12_invite_18
