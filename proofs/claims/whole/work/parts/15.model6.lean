/-! ===== the reference, by program (tools/gen.py) ===== -/
def B_X12_town_35 (f35 : Nat → Int32) (g35 : Nat → Int64) (a35 : Nat → Nat → Int32) (x1_35 : Int32) : Option ((Int32 × ST) ⊕ (Int32 × ST)) := if (f35 1) ≤ x1_35 then Option.map Sum.inr (some (((upd (upd (upd (upd (upd f35 0 ((f35 0) + (1 : Int32))) 6 0) 7 0) 8 0) 14 0) 1), (upd (upd (upd (upd (upd f35 0 ((f35 0) + (1 : Int32))) 6 0) 7 0) 8 0) 14 0), g35, a35)) else gd (inB ((4 : Int32) * x1_35) 21) (gd (inB x1_35 5) (gd (inB (((4 : Int32) * x1_35) + (1 : Int32)) 21) (gd (inB ((2 : Int32) * x1_35) 10) (gd (inB (((4 : Int32) * x1_35) + (2 : Int32)) 21) (gd (inB (((2 : Int32) * x1_35) + (1 : Int32)) 10) (gd (inB x1_35 5) (gd (inB x1_35 5) (some (.inl ((x1_35 + 1), f35, g35, (ua (ua (ua (ua (ua a35 2 x1_35.toNatClampNeg (F_X12_kindBy (a35 15 ((4 : Int32) * x1_35).toNatClampNeg))) 3 ((2 : Int32) * x1_35).toNatClampNeg (((ua a35 2 x1_35.toNatClampNeg (F_X12_kindBy (a35 15 ((4 : Int32) * x1_35).toNatClampNeg))) 15 (((4 : Int32) * x1_35) + (1 : Int32)).toNatClampNeg) - (48 : Int32))) 3 (((2 : Int32) * x1_35) + (1 : Int32)).toNatClampNeg (((ua (ua a35 2 x1_35.toNatClampNeg (F_X12_kindBy (a35 15 ((4 : Int32) * x1_35).toNatClampNeg))) 3 ((2 : Int32) * x1_35).toNatClampNeg (((ua a35 2 x1_35.toNatClampNeg (F_X12_kindBy (a35 15 ((4 : Int32) * x1_35).toNatClampNeg))) 15 (((4 : Int32) * x1_35) + (1 : Int32)).toNatClampNeg) - (48 : Int32))) 15 (((4 : Int32) * x1_35) + (2 : Int32)).toNatClampNeg) - (48 : Int32))) 4 x1_35.toNatClampNeg 0) 5 x1_35.toNatClampNeg 0)))))))))))
def N_X12_town_35 (f35 : Nat → Int32) (g35 : Nat → Int64) (a35 : Nat → Nat → Int32) (x1_35 : Int32) : Option (Int32 × ST) := lpN (fun q35 : (Int32 × ST) => B_X12_town_35 q35.2.1 q35.2.2.1 q35.2.2.2 q35.1) kFu (x1_35, f35, g35, a35)
def F_X12_town (f0 : Nat → Int32) (g0 : Nat → Int64) (a0 : Nat → Nat → Int32) : Option (Int32 × ST) := if (F_X12_isWhole f0 g0 a0) = 0 then some ((-103), f0, g0, a0) else (F_X12_faultNow f0 g0 a0).bind fun r3 => if r3 = (f0 14) then N_X12_town_35 (upd f0 1 (((f0 14) + (1 : Int32)) / 4)) g0 a0 0 else some ((-103), f0, g0, a0)
set_option maxHeartbeats 4000000 in
set_option maxRecDepth 100000 in
theorem c_X12_town (l : Launch) (hz : Nat) (D : va_G) (ad : Nat → Nat) (ck : Nat → ClassId) (f0 : Nat → Int32) (g0 : Nat → Int64) (a0 : Nat → Nat → Int32) (out : (Int32 × ST)) (hF : F_X12_town f0 g0 a0 = some out) : Met l yX12_town wsX12_town ({ frames := 3, cells := 0, slots := 0, locals := 67 }) (kW hz D vwCl (tM ck) (wM ad ck f0 g0 a0) [.ref (ad 0)]) (kQ D vwCl (some (.int out.1)) (wM ad ck f0 g0 a0) (wM ad ck out.2.1 out.2.2.1 out.2.2.2)) 0 0 (kAd (wM ad ck f0 g0 a0)) := by
  refine Met.ofW (cc := cX12_town) (maxL := 2) (ret := (some .int)) (by decide) rfl ?_
  intro p e s m args below meth c s₁ B hml hv
  obtain ⟨rfl, hP, hE, hD0⟩ := hv
  have hx := B.exec
  have hb := B.bytes
  have hr := B.returns
  have hts := atoms_spec (ws := wsX12_town) B.pre
  have hown : s.vm.findClass RX12 = some m.cls := findClass_of_methodNamed B.named
  have hlocks := B.notSynchronized
  have hK := hE.1
  have hnA := kAd_up hD0
  have hD := kD_self hD0
  have hS : va_S (kAd (wM ad ck f0 g0 a0)) s.heap s.heap [] := va_S.rf
  have hiX12 : ∀ w ∈ u_ws RX12 TX12 31, w ∈ wsX12_town := by decide +kernel
  have hf7 := hts (.fieldLink RX12 7 "SpeltByFriendsModel" "kindOf" "[I") (by decide +kernel)
  have hf13 := hts (.fieldLink RX12 13 "SpeltByFriendsModel" "holderOf" "[I") (by decide +kernel)
  have hf16 := hts (.fieldLink RX12 16 "SpeltByFriendsModel" "roomOf" "[I") (by decide +kernel)
  have hf19 := hts (.fieldLink RX12 19 "SpeltByFriendsModel" "quarrelsOf" "[I") (by decide +kernel)
  have hf31 := hts (.fieldLink RX12 31 "SpeltByFriendsModel" "page" "[B") (by decide +kernel)
  have hf63 := hts (.fieldLink RX12 63 "SpeltByFriendsModel" "pageLength" "I") (by decide +kernel)
  have hf83 := hts (.fieldLink RX12 83 "SpeltByFriendsModel" "people" "I") (by decide +kernel)
  have hf86 := hts (.fieldLink RX12 86 "SpeltByFriendsModel" "towns" "I") (by decide +kernel)
  have hf89 := hts (.fieldLink RX12 89 "SpeltByFriendsModel" "went" "I") (by decide +kernel)
  have hf92 := hts (.fieldLink RX12 92 "SpeltByFriendsModel" "sold" "I") (by decide +kernel)
  have hf95 := hts (.fieldLink RX12 95 "SpeltByFriendsModel" "heard" "I") (by decide +kernel)
  have hN_35 : ∀ (n35 : Nat) (f35 : Nat → Int32) (g35 : Nat → Int64) (a35 : Nat → Nat → Int32) (H : Heap) (locs : List Loc) (x1_35 : Int32) (ls : Array Slot), va_P D vwCl (wM ad ck f35 g35 a35) H → va_D (kAd (wM ad ck f0 g0 a0)) (wM ad ck f35 g35 a35) → va_S (kAd (wM ad ck f0 g0 a0)) s.heap H locs → lv_has ls 2 [(0, .ref (ad 0)), (1, .int x1_35)] → ∀ r : (Int32 × ST), lpN (fun q35 : (Int32 × ST) => B_X12_town_35 q35.2.1 q35.2.2.1 q35.2.2.2 q35.1) n35 (x1_35, f35, g35, a35) = some r → (fun r => r = out) r → W p l e (headSpec wsX12_town ({ frames := 3, cells := 0, slots := 0, locals := 67 })).room s m [.ref (ad 0)].toArray below meth c H locs 0 0 (MQ below (kQ D vwCl (some (.int out.1)) (wM ad ck f0 g0 a0) (wM ad ck out.2.1 out.2.2.1 out.2.2.2)) [.ref (ad 0)].toArray s 0 0 (kAd (wM ad ck f0 g0 a0))) (F0 m 35 ls []) := by
    intro n35
    induction n35 with
    | zero => intro f35 g35 a35 H locs x1_35 ls hP hD hS hl r hF hp; exact (lp_z hF).elim
    | succ n35 ih35 =>
      intro f35 g35 a35 H locs x1_35 ls hP hD hS hl r hF hp
      obtain ⟨rs, hF, hp⟩ := lpN_K (P := (fun r => r = out)) hF hp
      unfold B_X12_town_35 at hF
      refine lv_iload_n hx hb dX12_town_35 rfl (lv_at hl 1 rfl) ?_
      refine lv_aload_n hx hb dX12_town_36 rfl (lv_at hl 0 rfl) ?_
      refine va_get (D := D) (ci := 12) (v := .int (f35 1)) (C := RX12) (T := TX12) (N := 31) hx hb hts hiX12 hown hK hP 0 rfl rfl 1 (by decide) hf83 (fun _ h9 => h9) rfl dX12_town_37 ?_
      refine lv_icmp_ge (tgt := 124) hx hb dX12_town_40 (by decide) (fun hc5 => ?_) (fun hc5 => ?_)
      · have hF := it_p hc5 hF
        obtain ⟨r, hF1, hr0⟩ := mp_s hF
        clear hF
        subst hr0
        have hF := hF1
        clear hF1
        have hp : (fun r => r = out) r := hp
        refine lv_aload_n hx hb dX12_town_124 rfl (lv_at hl 0 rfl) ?_
        refine lv_dup hx hb dX12_town_125 rfl ?_
        refine va_get (D := D) (ci := 12) (v := .int (f35 0)) (C := RX12) (T := TX12) (N := 31) hx hb hts hiX12 hown hK hP 0 rfl rfl 0 (by decide) hf86 (fun _ h9 => h9) rfl dX12_town_126 ?_
        refine lv_iconst (v := 1) hx hb dX12_town_129 (by decide) ?_
        refine lv_iadd hx hb dX12_town_130 ?_
        refine va_put (D := D) (ci := 12) (v := .int ((f35 0) + (1 : Int32))) (ty := .int) (C := RX12) (T := TX12) (N := 31) hx hb hts hiX12 tyX12 tyX12_ok nmX12 hown hK hP hD hS 0 rfl rfl 0 (by decide) hf86 (fun _ h9 => h9) rfl (tyX12_ok 0 (by decide)) rfl rfl (Nat.le_of_ble_eq_true rfl) dX12_town_131 (fun H locs hP hD hS => ?_)
        have hP := kPe (ef_wM0_0 ad ck f35 g35 a35 ((f35 0) + (1 : Int32))) hP
        have hD := kDe (ef_wM0_0 ad ck f35 g35 a35 ((f35 0) + (1 : Int32))) hD
        refine lv_aload_n hx hb dX12_town_134 rfl (lv_at hl 0 rfl) ?_
        refine lv_iconst (v := 0) hx hb dX12_town_135 (by decide) ?_
        refine va_put (D := D) (ci := 12) (v := .int 0) (ty := .int) (C := RX12) (T := TX12) (N := 31) hx hb hts hiX12 tyX12 tyX12_ok nmX12 hown hK hP hD hS 0 rfl rfl 6 (by decide) hf89 (fun _ h9 => h9) rfl (tyX12_ok 6 (by decide)) rfl rfl (Nat.le_of_ble_eq_true rfl) dX12_town_136 (fun H locs hP hD hS => ?_)
        have hP := kPe (ef_wM0_6 ad ck (upd f35 0 ((f35 0) + (1 : Int32))) g35 a35 0) hP
        have hD := kDe (ef_wM0_6 ad ck (upd f35 0 ((f35 0) + (1 : Int32))) g35 a35 0) hD
        refine lv_aload_n hx hb dX12_town_139 rfl (lv_at hl 0 rfl) ?_
        refine lv_iconst (v := 0) hx hb dX12_town_140 (by decide) ?_
        refine va_put (D := D) (ci := 12) (v := .int 0) (ty := .int) (C := RX12) (T := TX12) (N := 31) hx hb hts hiX12 tyX12 tyX12_ok nmX12 hown hK hP hD hS 0 rfl rfl 7 (by decide) hf92 (fun _ h9 => h9) rfl (tyX12_ok 7 (by decide)) rfl rfl (Nat.le_of_ble_eq_true rfl) dX12_town_141 (fun H locs hP hD hS => ?_)
        have hP := kPe (ef_wM0_7 ad ck (upd (upd f35 0 ((f35 0) + (1 : Int32))) 6 0) g35 a35 0) hP
        have hD := kDe (ef_wM0_7 ad ck (upd (upd f35 0 ((f35 0) + (1 : Int32))) 6 0) g35 a35 0) hD
        refine lv_aload_n hx hb dX12_town_144 rfl (lv_at hl 0 rfl) ?_
        refine lv_iconst (v := 0) hx hb dX12_town_145 (by decide) ?_
        refine va_put (D := D) (ci := 12) (v := .int 0) (ty := .int) (C := RX12) (T := TX12) (N := 31) hx hb hts hiX12 tyX12 tyX12_ok nmX12 hown hK hP hD hS 0 rfl rfl 8 (by decide) hf95 (fun _ h9 => h9) rfl (tyX12_ok 8 (by decide)) rfl rfl (Nat.le_of_ble_eq_true rfl) dX12_town_146 (fun H locs hP hD hS => ?_)
        have hP := kPe (ef_wM0_8 ad ck (upd (upd (upd f35 0 ((f35 0) + (1 : Int32))) 6 0) 7 0) g35 a35 0) hP
        have hD := kDe (ef_wM0_8 ad ck (upd (upd (upd f35 0 ((f35 0) + (1 : Int32))) 6 0) 7 0) g35 a35 0) hD
        refine lv_aload_n hx hb dX12_town_149 rfl (lv_at hl 0 rfl) ?_
        refine lv_iconst (v := 0) hx hb dX12_town_150 (by decide) ?_
        refine va_put (D := D) (ci := 12) (v := .int 0) (ty := .int) (C := RX12) (T := TX12) (N := 31) hx hb hts hiX12 tyX12 tyX12_ok nmX12 hown hK hP hD hS 0 rfl rfl 14 (by decide) hf63 (fun _ h9 => h9) rfl (tyX12_ok 14 (by decide)) rfl rfl (Nat.le_of_ble_eq_true rfl) dX12_town_151 (fun H locs hP hD hS => ?_)
        have hP := kPe (ef_wM0_14 ad ck (upd (upd (upd (upd f35 0 ((f35 0) + (1 : Int32))) 6 0) 7 0) 8 0) g35 a35 0) hP
        have hD := kDe (ef_wM0_14 ad ck (upd (upd (upd (upd f35 0 ((f35 0) + (1 : Int32))) 6 0) 7 0) 8 0) g35 a35 0) hD
        refine lv_aload_n hx hb dX12_town_154 rfl (lv_at hl 0 rfl) ?_
        refine va_get (D := D) (ci := 12) (v := .int ((upd (upd (upd (upd (upd f35 0 ((f35 0) + (1 : Int32))) 6 0) 7 0) 8 0) 14 0) 1)) (C := RX12) (T := TX12) (N := 31) hx hb hts hiX12 hown hK hP 0 rfl rfl 1 (by decide) hf83 (fun _ h9 => h9) rfl dX12_town_155 ?_
        have hF := (Option.some.inj hF).trans hp
        subst hF
        exact W.iret hx hb hr (fun t ht hW => ⟨rfl, by rw [ht]; exact hP, hS.F ht⟩) hS.2.2 dX12_town_158
      · have hF := it_n hc5 hF
        refine lv_aload_n hx hb dX12_town_43 rfl (lv_at hl 0 rfl) ?_
        refine va_get (D := D) (ci := 12) (v := .ref (ad 2)) (C := RX12) (T := TX12) (N := 31) hx hb hts hiX12 hown hK hP 0 rfl rfl 2 (by decide) hf7 (fun _ h9 => h9) rfl dX12_town_44 ?_
        refine lv_iload_n hx hb dX12_town_47 rfl (lv_at hl 1 rfl) ?_
        refine lv_aload_n hx hb dX12_town_48 rfl (lv_at hl 0 rfl) ?_
        refine va_get (D := D) (ci := 12) (v := .ref (ad 15)) (C := RX12) (T := TX12) (N := 31) hx hb hts hiX12 hown hK hP 0 rfl rfl 15 (by decide) hf31 (fun _ h9 => h9) rfl dX12_town_49 ?_
        refine lv_iconst (v := 4) hx hb dX12_town_52 (by decide) ?_
        refine lv_iload_n hx hb dX12_town_53 rfl (lv_at hl 1 rfl) ?_
        refine lv_imul hx hb dX12_town_54 ?_
        obtain ⟨hg6, hF⟩ := gd_s hF
        refine va_bald hx hb hK hP 8 7 rfl rfl (inB_in hg6) dX12_town_55 ?_
        refine kS_i (va_runS (As := [.int (a35 15 ((4 : Int32) * x1_35).toNatClampNeg)]) (rest := [.int x1_35, .ref (ad 2)]) ⟨hx, hb, hml, hown, hts⟩ (c_X12_kindBy l hz D (tM ck) (a35 15 ((4 : Int32) * x1_35).toNatClampNeg)) (va_cwS 1 hts gX12_town_X12_kindBy rfl rfl rfl pX12_kindBy ⟨Nat.le_of_ble_eq_true rfl, Nat.le_of_ble_eq_true rfl⟩) (kR.preS kP_nil (hE.kept hS hnA)) rfl rfl hl.1 rfl (lv_room (Nat.le_of_ble_eq_true rfl)) dX12_town_56 ⟨Nat.le_refl _, Nat.le_refl _⟩) ?_
        obtain ⟨hg7, hF⟩ := gd_s hF
        refine va_iast hx hb hK hP hD hS 1 0 rfl rfl (inB_in hg7) dX12_town_59 (fun H locs hP hD hS => ?_)
        have hP := kPe (eu_wM2 ad ck f35 g35 a35 x1_35.toNatClampNeg (F_X12_kindBy (a35 15 ((4 : Int32) * x1_35).toNatClampNeg))) hP
        have hD := kDe (eu_wM2 ad ck f35 g35 a35 x1_35.toNatClampNeg (F_X12_kindBy (a35 15 ((4 : Int32) * x1_35).toNatClampNeg))) hD
        refine lv_aload_n hx hb dX12_town_60 rfl (lv_at hl 0 rfl) ?_
        refine va_get (D := D) (ci := 12) (v := .ref (ad 3)) (C := RX12) (T := TX12) (N := 31) hx hb hts hiX12 hown hK hP 0 rfl rfl 3 (by decide) hf13 (fun _ h9 => h9) rfl dX12_town_61 ?_
        refine lv_iconst (v := 2) hx hb dX12_town_64 (by decide) ?_
        refine lv_iload_n hx hb dX12_town_65 rfl (lv_at hl 1 rfl) ?_
        refine lv_imul hx hb dX12_town_66 ?_
        refine lv_aload_n hx hb dX12_town_67 rfl (lv_at hl 0 rfl) ?_
        refine va_get (D := D) (ci := 12) (v := .ref (ad 15)) (C := RX12) (T := TX12) (N := 31) hx hb hts hiX12 hown hK hP 0 rfl rfl 15 (by decide) hf31 (fun _ h9 => h9) rfl dX12_town_68 ?_
        refine lv_iconst (v := 4) hx hb dX12_town_71 (by decide) ?_
        refine lv_iload_n hx hb dX12_town_72 rfl (lv_at hl 1 rfl) ?_
        refine lv_imul hx hb dX12_town_73 ?_
        refine lv_iconst (v := 1) hx hb dX12_town_74 (by decide) ?_
        refine lv_iadd hx hb dX12_town_75 ?_
        obtain ⟨hg8, hF⟩ := gd_s hF
        refine va_bald hx hb hK hP 8 7 rfl rfl (inB_in hg8) dX12_town_76 ?_
        refine lv_bipush (v := 48) hx hb dX12_town_77 (by decide) ?_
        refine lv_isub hx hb dX12_town_79 ?_
        obtain ⟨hg9, hF⟩ := gd_s hF
        refine va_iast hx hb hK hP hD hS 2 1 rfl rfl (inB_in hg9) dX12_town_80 (fun H locs hP hD hS => ?_)
        have hP := kPe (eu_wM3 ad ck f35 g35 (ua a35 2 x1_35.toNatClampNeg (F_X12_kindBy (a35 15 ((4 : Int32) * x1_35).toNatClampNeg))) ((2 : Int32) * x1_35).toNatClampNeg (((ua a35 2 x1_35.toNatClampNeg (F_X12_kindBy (a35 15 ((4 : Int32) * x1_35).toNatClampNeg))) 15 (((4 : Int32) * x1_35) + (1 : Int32)).toNatClampNeg) - (48 : Int32))) hP
        have hD := kDe (eu_wM3 ad ck f35 g35 (ua a35 2 x1_35.toNatClampNeg (F_X12_kindBy (a35 15 ((4 : Int32) * x1_35).toNatClampNeg))) ((2 : Int32) * x1_35).toNatClampNeg (((ua a35 2 x1_35.toNatClampNeg (F_X12_kindBy (a35 15 ((4 : Int32) * x1_35).toNatClampNeg))) 15 (((4 : Int32) * x1_35) + (1 : Int32)).toNatClampNeg) - (48 : Int32))) hD
        refine lv_aload_n hx hb dX12_town_81 rfl (lv_at hl 0 rfl) ?_
        refine va_get (D := D) (ci := 12) (v := .ref (ad 3)) (C := RX12) (T := TX12) (N := 31) hx hb hts hiX12 hown hK hP 0 rfl rfl 3 (by decide) hf13 (fun _ h9 => h9) rfl dX12_town_82 ?_
        refine lv_iconst (v := 2) hx hb dX12_town_85 (by decide) ?_
        refine lv_iload_n hx hb dX12_town_86 rfl (lv_at hl 1 rfl) ?_
        refine lv_imul hx hb dX12_town_87 ?_
        refine lv_iconst (v := 1) hx hb dX12_town_88 (by decide) ?_
        refine lv_iadd hx hb dX12_town_89 ?_
        refine lv_aload_n hx hb dX12_town_90 rfl (lv_at hl 0 rfl) ?_
        refine va_get (D := D) (ci := 12) (v := .ref (ad 15)) (C := RX12) (T := TX12) (N := 31) hx hb hts hiX12 hown hK hP 0 rfl rfl 15 (by decide) hf31 (fun _ h9 => h9) rfl dX12_town_91 ?_
        refine lv_iconst (v := 4) hx hb dX12_town_94 (by decide) ?_
        refine lv_iload_n hx hb dX12_town_95 rfl (lv_at hl 1 rfl) ?_
        refine lv_imul hx hb dX12_town_96 ?_
        refine lv_iconst (v := 2) hx hb dX12_town_97 (by decide) ?_
        refine lv_iadd hx hb dX12_town_98 ?_
        obtain ⟨hg10, hF⟩ := gd_s hF
        refine va_bald hx hb hK hP 8 7 rfl rfl (inB_in hg10) dX12_town_99 ?_
        refine lv_bipush (v := 48) hx hb dX12_town_100 (by decide) ?_
        refine lv_isub hx hb dX12_town_102 ?_
        obtain ⟨hg11, hF⟩ := gd_s hF
        refine va_iast hx hb hK hP hD hS 2 1 rfl rfl (inB_in hg11) dX12_town_103 (fun H locs hP hD hS => ?_)
        have hP := kPe (eu_wM3 ad ck f35 g35 (ua (ua a35 2 x1_35.toNatClampNeg (F_X12_kindBy (a35 15 ((4 : Int32) * x1_35).toNatClampNeg))) 3 ((2 : Int32) * x1_35).toNatClampNeg (((ua a35 2 x1_35.toNatClampNeg (F_X12_kindBy (a35 15 ((4 : Int32) * x1_35).toNatClampNeg))) 15 (((4 : Int32) * x1_35) + (1 : Int32)).toNatClampNeg) - (48 : Int32))) (((2 : Int32) * x1_35) + (1 : Int32)).toNatClampNeg (((ua (ua a35 2 x1_35.toNatClampNeg (F_X12_kindBy (a35 15 ((4 : Int32) * x1_35).toNatClampNeg))) 3 ((2 : Int32) * x1_35).toNatClampNeg (((ua a35 2 x1_35.toNatClampNeg (F_X12_kindBy (a35 15 ((4 : Int32) * x1_35).toNatClampNeg))) 15 (((4 : Int32) * x1_35) + (1 : Int32)).toNatClampNeg) - (48 : Int32))) 15 (((4 : Int32) * x1_35) + (2 : Int32)).toNatClampNeg) - (48 : Int32))) hP
        have hD := kDe (eu_wM3 ad ck f35 g35 (ua (ua a35 2 x1_35.toNatClampNeg (F_X12_kindBy (a35 15 ((4 : Int32) * x1_35).toNatClampNeg))) 3 ((2 : Int32) * x1_35).toNatClampNeg (((ua a35 2 x1_35.toNatClampNeg (F_X12_kindBy (a35 15 ((4 : Int32) * x1_35).toNatClampNeg))) 15 (((4 : Int32) * x1_35) + (1 : Int32)).toNatClampNeg) - (48 : Int32))) (((2 : Int32) * x1_35) + (1 : Int32)).toNatClampNeg (((ua (ua a35 2 x1_35.toNatClampNeg (F_X12_kindBy (a35 15 ((4 : Int32) * x1_35).toNatClampNeg))) 3 ((2 : Int32) * x1_35).toNatClampNeg (((ua a35 2 x1_35.toNatClampNeg (F_X12_kindBy (a35 15 ((4 : Int32) * x1_35).toNatClampNeg))) 15 (((4 : Int32) * x1_35) + (1 : Int32)).toNatClampNeg) - (48 : Int32))) 15 (((4 : Int32) * x1_35) + (2 : Int32)).toNatClampNeg) - (48 : Int32))) hD
        refine lv_aload_n hx hb dX12_town_104 rfl (lv_at hl 0 rfl) ?_
        refine va_get (D := D) (ci := 12) (v := .ref (ad 4)) (C := RX12) (T := TX12) (N := 31) hx hb hts hiX12 hown hK hP 0 rfl rfl 4 (by decide) hf16 (fun _ h9 => h9) rfl dX12_town_105 ?_
        refine lv_iload_n hx hb dX12_town_108 rfl (lv_at hl 1 rfl) ?_
        refine lv_iconst (v := 0) hx hb dX12_town_109 (by decide) ?_
        obtain ⟨hg12, hF⟩ := gd_s hF
        refine va_iast hx hb hK hP hD hS 3 2 rfl rfl (inB_in hg12) dX12_town_110 (fun H locs hP hD hS => ?_)
        have hP := kPe (eu_wM4 ad ck f35 g35 (ua (ua (ua a35 2 x1_35.toNatClampNeg (F_X12_kindBy (a35 15 ((4 : Int32) * x1_35).toNatClampNeg))) 3 ((2 : Int32) * x1_35).toNatClampNeg (((ua a35 2 x1_35.toNatClampNeg (F_X12_kindBy (a35 15 ((4 : Int32) * x1_35).toNatClampNeg))) 15 (((4 : Int32) * x1_35) + (1 : Int32)).toNatClampNeg) - (48 : Int32))) 3 (((2 : Int32) * x1_35) + (1 : Int32)).toNatClampNeg (((ua (ua a35 2 x1_35.toNatClampNeg (F_X12_kindBy (a35 15 ((4 : Int32) * x1_35).toNatClampNeg))) 3 ((2 : Int32) * x1_35).toNatClampNeg (((ua a35 2 x1_35.toNatClampNeg (F_X12_kindBy (a35 15 ((4 : Int32) * x1_35).toNatClampNeg))) 15 (((4 : Int32) * x1_35) + (1 : Int32)).toNatClampNeg) - (48 : Int32))) 15 (((4 : Int32) * x1_35) + (2 : Int32)).toNatClampNeg) - (48 : Int32))) x1_35.toNatClampNeg 0) hP
        have hD := kDe (eu_wM4 ad ck f35 g35 (ua (ua (ua a35 2 x1_35.toNatClampNeg (F_X12_kindBy (a35 15 ((4 : Int32) * x1_35).toNatClampNeg))) 3 ((2 : Int32) * x1_35).toNatClampNeg (((ua a35 2 x1_35.toNatClampNeg (F_X12_kindBy (a35 15 ((4 : Int32) * x1_35).toNatClampNeg))) 15 (((4 : Int32) * x1_35) + (1 : Int32)).toNatClampNeg) - (48 : Int32))) 3 (((2 : Int32) * x1_35) + (1 : Int32)).toNatClampNeg (((ua (ua a35 2 x1_35.toNatClampNeg (F_X12_kindBy (a35 15 ((4 : Int32) * x1_35).toNatClampNeg))) 3 ((2 : Int32) * x1_35).toNatClampNeg (((ua a35 2 x1_35.toNatClampNeg (F_X12_kindBy (a35 15 ((4 : Int32) * x1_35).toNatClampNeg))) 15 (((4 : Int32) * x1_35) + (1 : Int32)).toNatClampNeg) - (48 : Int32))) 15 (((4 : Int32) * x1_35) + (2 : Int32)).toNatClampNeg) - (48 : Int32))) x1_35.toNatClampNeg 0) hD
        refine lv_aload_n hx hb dX12_town_111 rfl (lv_at hl 0 rfl) ?_
        refine va_get (D := D) (ci := 12) (v := .ref (ad 5)) (C := RX12) (T := TX12) (N := 31) hx hb hts hiX12 hown hK hP 0 rfl rfl 5 (by decide) hf19 (fun _ h9 => h9) rfl dX12_town_112 ?_
        refine lv_iload_n hx hb dX12_town_115 rfl (lv_at hl 1 rfl) ?_
        refine lv_iconst (v := 0) hx hb dX12_town_116 (by decide) ?_
        obtain ⟨hg13, hF⟩ := gd_s hF
        refine va_iast hx hb hK hP hD hS 4 3 rfl rfl (inB_in hg13) dX12_town_117 (fun H locs hP hD hS => ?_)
        have hP := kPe (eu_wM5 ad ck f35 g35 (ua (ua (ua (ua a35 2 x1_35.toNatClampNeg (F_X12_kindBy (a35 15 ((4 : Int32) * x1_35).toNatClampNeg))) 3 ((2 : Int32) * x1_35).toNatClampNeg (((ua a35 2 x1_35.toNatClampNeg (F_X12_kindBy (a35 15 ((4 : Int32) * x1_35).toNatClampNeg))) 15 (((4 : Int32) * x1_35) + (1 : Int32)).toNatClampNeg) - (48 : Int32))) 3 (((2 : Int32) * x1_35) + (1 : Int32)).toNatClampNeg (((ua (ua a35 2 x1_35.toNatClampNeg (F_X12_kindBy (a35 15 ((4 : Int32) * x1_35).toNatClampNeg))) 3 ((2 : Int32) * x1_35).toNatClampNeg (((ua a35 2 x1_35.toNatClampNeg (F_X12_kindBy (a35 15 ((4 : Int32) * x1_35).toNatClampNeg))) 15 (((4 : Int32) * x1_35) + (1 : Int32)).toNatClampNeg) - (48 : Int32))) 15 (((4 : Int32) * x1_35) + (2 : Int32)).toNatClampNeg) - (48 : Int32))) 4 x1_35.toNatClampNeg 0) x1_35.toNatClampNeg 0) hP
        have hD := kDe (eu_wM5 ad ck f35 g35 (ua (ua (ua (ua a35 2 x1_35.toNatClampNeg (F_X12_kindBy (a35 15 ((4 : Int32) * x1_35).toNatClampNeg))) 3 ((2 : Int32) * x1_35).toNatClampNeg (((ua a35 2 x1_35.toNatClampNeg (F_X12_kindBy (a35 15 ((4 : Int32) * x1_35).toNatClampNeg))) 15 (((4 : Int32) * x1_35) + (1 : Int32)).toNatClampNeg) - (48 : Int32))) 3 (((2 : Int32) * x1_35) + (1 : Int32)).toNatClampNeg (((ua (ua a35 2 x1_35.toNatClampNeg (F_X12_kindBy (a35 15 ((4 : Int32) * x1_35).toNatClampNeg))) 3 ((2 : Int32) * x1_35).toNatClampNeg (((ua a35 2 x1_35.toNatClampNeg (F_X12_kindBy (a35 15 ((4 : Int32) * x1_35).toNatClampNeg))) 15 (((4 : Int32) * x1_35) + (1 : Int32)).toNatClampNeg) - (48 : Int32))) 15 (((4 : Int32) * x1_35) + (2 : Int32)).toNatClampNeg) - (48 : Int32))) 4 x1_35.toNatClampNeg 0) x1_35.toNatClampNeg 0) hD
        refine lv_iinc (v := (x1_35 + 1)) (lv' := [(1, .int (x1_35 + 1)), (0, .ref (ad 0))]) hx hb dX12_town_118 hl (k := 1) rfl rfl (by decide) rfl (fun ls hl => ?_)
        refine lv_goto (tgt := 35) hx hb dX12_town_121 (by decide) ?_
        have hF := Option.some.inj hF
        subst hF
        obtain ⟨r, hF, hp⟩ := hp
        exact ih35 f35 g35 (ua (ua (ua (ua (ua a35 2 x1_35.toNatClampNeg (F_X12_kindBy (a35 15 ((4 : Int32) * x1_35).toNatClampNeg))) 3 ((2 : Int32) * x1_35).toNatClampNeg (((ua a35 2 x1_35.toNatClampNeg (F_X12_kindBy (a35 15 ((4 : Int32) * x1_35).toNatClampNeg))) 15 (((4 : Int32) * x1_35) + (1 : Int32)).toNatClampNeg) - (48 : Int32))) 3 (((2 : Int32) * x1_35) + (1 : Int32)).toNatClampNeg (((ua (ua a35 2 x1_35.toNatClampNeg (F_X12_kindBy (a35 15 ((4 : Int32) * x1_35).toNatClampNeg))) 3 ((2 : Int32) * x1_35).toNatClampNeg (((ua a35 2 x1_35.toNatClampNeg (F_X12_kindBy (a35 15 ((4 : Int32) * x1_35).toNatClampNeg))) 15 (((4 : Int32) * x1_35) + (1 : Int32)).toNatClampNeg) - (48 : Int32))) 15 (((4 : Int32) * x1_35) + (2 : Int32)).toNatClampNeg) - (48 : Int32))) 4 x1_35.toNatClampNeg 0) 5 x1_35.toNatClampNeg 0) _ _ (x1_35 + 1) ls hP hD hS (lv_sub hl [1, 0] rfl) r hF hp
  have hl := lv_entry ([.ref (ad 0)]) (n := 2) (Nat.le_of_ble_eq_true rfl)
  rw [lg_entry_eq]
  generalize (lg_sl ([.ref (ad 0)]) ++ List.replicate (2 - (lg_sl ([.ref (ad 0)])).length) Slot.unset).toArray = ls at hl ⊢
  have hl : lv_has ls 2 [(0, .ref (ad 0))] := hl
  obtain ⟨r, hF, hp⟩ : ∃ r, F_X12_town f0 g0 a0 = some r ∧ r = out := ⟨out, hF, rfl⟩
  unfold F_X12_town at hF
  refine lv_aload_n hx hb dX12_town_0 rfl (lv_at hl 0 rfl) ?_
  refine kS_b (va_runV (As := []) (rest := []) ⟨hx, hb, hml, hown, hts⟩ (c_X12_isWhole l hz D ad ck f0 g0 a0) (cwV 0 hts gX12_town_X12_isWhole rfl rfl rfl ⟨rfl, pX12_isWhole⟩ ⟨Nat.le_of_ble_eq_true rfl, Nat.le_of_ble_eq_true rfl⟩) (kR.preV (va_recv hK hP (ci := 12) (q0 := 0) rfl rfl) hP (hE.kept hS hnA)) rfl rfl hl.1 rfl (lv_room (Nat.le_of_ble_eq_true rfl)) dX12_town_1 ⟨Nat.le_refl _, Nat.le_refl _⟩) (fun hz1 => ?_)
  refine lv_if_eq (tgt := 18) hx hb dX12_town_4 (by decide) (fun hc2 => ?_) (fun hc2 => ?_)
  · have hF := it_p hc2 hF
    refine lv_bipush (v := (-103)) hx hb dX12_town_18 (by decide) ?_
    have hF := (Option.some.inj hF).trans hp
    subst hF
    exact W.iret hx hb hr (fun t ht hW => ⟨rfl, by rw [ht]; exact hP, hS.F ht⟩) hS.2.2 dX12_town_20
  · have hF := it_n hc2 hF
    refine lv_aload_n hx hb dX12_town_7 rfl (lv_at hl 0 rfl) ?_
    obtain ⟨r3, he3, hF⟩ := bd_s hF
    refine kS_i (va_runV (As := []) (rest := []) ⟨hx, hb, hml, hown, hts⟩ (c_X12_faultNow l hz D ad ck f0 g0 a0 r3 he3) (cwV 0 hts gX12_town_X12_faultNow rfl rfl rfl ⟨rfl, pX12_faultNow⟩ ⟨Nat.le_of_ble_eq_true rfl, Nat.le_of_ble_eq_true rfl⟩) (kR.preV (va_recv hK hP (ci := 12) (q0 := 0) rfl rfl) hP (hE.kept hS hnA)) rfl rfl hl.1 rfl (lv_room (Nat.le_of_ble_eq_true rfl)) dX12_town_8 ⟨Nat.le_refl _, Nat.le_refl _⟩) ?_
    refine lv_aload_n hx hb dX12_town_11 rfl (lv_at hl 0 rfl) ?_
    refine va_get (D := D) (ci := 12) (v := .int (f0 14)) (C := RX12) (T := TX12) (N := 31) hx hb hts hiX12 hown hK hP 0 rfl rfl 14 (by decide) hf63 (fun _ h9 => h9) rfl dX12_town_12 ?_
    refine lv_icmp_eq (tgt := 21) hx hb dX12_town_15 (by decide) (fun hc4 => ?_) (fun hc4 => ?_)
    · have hF := it_p hc4 hF
      refine lv_aload_n hx hb dX12_town_21 rfl (lv_at hl 0 rfl) ?_
      refine lv_aload_n hx hb dX12_town_22 rfl (lv_at hl 0 rfl) ?_
      refine va_get (D := D) (ci := 12) (v := .int (f0 14)) (C := RX12) (T := TX12) (N := 31) hx hb hts hiX12 hown hK hP 0 rfl rfl 14 (by decide) hf63 (fun _ h9 => h9) rfl dX12_town_23 ?_
      refine lv_iconst (v := 1) hx hb dX12_town_26 (by decide) ?_
      refine lv_iadd hx hb dX12_town_27 ?_
      refine lv_iconst (v := 4) hx hb dX12_town_28 (by decide) ?_
      refine lv_idiv hx hb dX12_town_29 (by decide) ?_
      refine va_put (D := D) (ci := 12) (v := .int (((f0 14) + (1 : Int32)) / 4)) (ty := .int) (C := RX12) (T := TX12) (N := 31) hx hb hts hiX12 tyX12 tyX12_ok nmX12 hown hK hP hD hS 0 rfl rfl 1 (by decide) hf83 (fun _ h9 => h9) rfl (tyX12_ok 1 (by decide)) rfl rfl (Nat.le_of_ble_eq_true rfl) dX12_town_30 (fun H locs hP hD hS => ?_)
      have hP := kPe (ef_wM0_1 ad ck f0 g0 a0 (((f0 14) + (1 : Int32)) / 4)) hP
      have hD := kDe (ef_wM0_1 ad ck f0 g0 a0 (((f0 14) + (1 : Int32)) / 4)) hD
      refine lv_iconst (v := 0) hx hb dX12_town_33 (by decide) ?_
      refine lv_istore_n (lv' := [(1, .int 0), (0, .ref (ad 0))]) hx hb dX12_town_34 rfl hl (by decide) rfl (fun ls hl => ?_)
      exact hN_35 kFu (upd f0 1 (((f0 14) + (1 : Int32)) / 4)) g0 a0 _ _ 0 ls hP hD hS (lv_sub hl [1, 0] rfl) _ hF hp
    · have hF := it_n hc4 hF
      refine lv_bipush (v := (-103)) hx hb dX12_town_18 (by decide) ?_
      have hF := (Option.some.inj hF).trans hp
      subst hF
      exact W.iret hx hb hr (fun t ht hW => ⟨rfl, by rw [ht]; exact hP, hS.F ht⟩) hS.2.2 dX12_town_20
