/-! ===== the reference, by program (tools/gen.py) ===== -/
def F_X12_go (f0 : Nat → Int32) (g0 : Nat → Int64) (a0 : Nat → Nat → Int32) (p1 : Int32) (p2 : Int32) : Option (Int32 × ST) := if (F_X12_isOne f0 g0 a0 p1) = 0 then some ((-101), f0, g0, a0) else if (F_X12_within p2 0 3) = 0 then some ((-102), f0, g0, a0) else gd (inB p1 5) (gd (inB p1 5) (some ((a0 4 p1.toNatClampNeg), (upd f0 6 ((f0 6) + (1 : Int32))), g0, (ua a0 4 p1.toNatClampNeg p2))))
set_option maxHeartbeats 4000000 in
set_option maxRecDepth 100000 in
theorem c_X12_go (l : Launch) (hz : Nat) (D : va_G) (ad : Nat → Nat) (ck : Nat → ClassId) (f0 : Nat → Int32) (g0 : Nat → Int64) (a0 : Nat → Nat → Int32) (p1 : Int32) (p2 : Int32) (out : (Int32 × ST)) (hF : F_X12_go f0 g0 a0 p1 p2 = some out) : Met l yX12_go wsX12_go ({ frames := 2, cells := 0, slots := 0, locals := 43 }) (kW hz D vwCl (tM ck) (wM ad ck f0 g0 a0) [.ref (ad 0), .int p1, .int p2]) (kQ D vwCl (some (.int out.1)) (wM ad ck f0 g0 a0) (wM ad ck out.2.1 out.2.2.1 out.2.2.2)) 0 0 (kAd (wM ad ck f0 g0 a0)) := by
  refine Met.ofW (cc := cX12_go) (maxL := 4) (ret := (some .int)) (by decide) rfl ?_
  intro p e s m args below meth c s₁ B hml hv
  obtain ⟨rfl, hP, hE, hD0⟩ := hv
  have hx := B.exec
  have hb := B.bytes
  have hr := B.returns
  have hts := atoms_spec (ws := wsX12_go) B.pre
  have hown : s.vm.findClass RX12 = some m.cls := findClass_of_methodNamed B.named
  have hlocks := B.notSynchronized
  have hK := hE.1
  have hnA := kAd_up hD0
  have hD := kD_self hD0
  have hS : va_S (kAd (wM ad ck f0 g0 a0)) s.heap s.heap [] := va_S.rf
  have hiX12 : ∀ w ∈ u_ws RX12 TX12 31, w ∈ wsX12_go := by decide +kernel
  have hf16 := hts (.fieldLink RX12 16 "SpeltByFriendsModel" "roomOf" "[I") (by decide +kernel)
  have hf89 := hts (.fieldLink RX12 89 "SpeltByFriendsModel" "went" "I") (by decide +kernel)
  have hl := lv_entry ([.ref (ad 0), .int p1, .int p2]) (n := 4) (Nat.le_of_ble_eq_true rfl)
  rw [lg_entry_eq]
  generalize (lg_sl ([.ref (ad 0), .int p1, .int p2]) ++ List.replicate (4 - (lg_sl ([.ref (ad 0), .int p1, .int p2])).length) Slot.unset).toArray = ls at hl ⊢
  have hl : lv_has ls 4 [(0, .ref (ad 0)), (1, .int p1), (2, .int p2)] := hl
  obtain ⟨r, hF, hp⟩ : ∃ r, F_X12_go f0 g0 a0 p1 p2 = some r ∧ r = out := ⟨out, hF, rfl⟩
  unfold F_X12_go at hF
  refine lv_aload_n hx hb dX12_go_0 rfl (lv_at hl 0 rfl) ?_
  refine lv_iload_n hx hb dX12_go_1 rfl (lv_at hl 1 rfl) ?_
  refine kS_b (va_runV (As := [.int p1]) (rest := []) ⟨hx, hb, hml, hown, hts⟩ (c_X12_isOne l hz D ad ck f0 g0 a0 p1) (cwV 1 hts gX12_go_X12_isOne rfl rfl rfl ⟨rfl, pX12_isOne⟩ ⟨Nat.le_of_ble_eq_true rfl, Nat.le_of_ble_eq_true rfl⟩) (kR.preV (va_recv hK hP (ci := 12) (q0 := 0) rfl rfl) hP (hE.kept hS hnA)) rfl rfl hl.1 rfl (lv_room (Nat.le_of_ble_eq_true rfl)) dX12_go_2 ⟨Nat.le_refl _, Nat.le_refl _⟩) (fun hz1 => ?_)
  refine lv_if_ne (tgt := 11) hx hb dX12_go_5 (by decide) (fun hc2 => ?_) (fun hc2 => ?_)
  · have hF := it_n hc2 hF
    refine lv_iload_n hx hb dX12_go_11 rfl (lv_at hl 2 rfl) ?_
    refine lv_iconst (v := 0) hx hb dX12_go_12 (by decide) ?_
    refine lv_iconst (v := 3) hx hb dX12_go_13 (by decide) ?_
    refine kS_b (va_runS (As := [.int p2, .int 0, .int 3]) (rest := []) ⟨hx, hb, hml, hown, hts⟩ (c_X12_within l hz D (tM ck) p2 0 3) (va_cwS 3 hts gX12_go_X12_within rfl rfl rfl pX12_within ⟨Nat.le_of_ble_eq_true rfl, Nat.le_of_ble_eq_true rfl⟩) (kR.preS kP_nil (hE.kept hS hnA)) rfl rfl hl.1 rfl (lv_room (Nat.le_of_ble_eq_true rfl)) dX12_go_14 ⟨Nat.le_refl _, Nat.le_refl _⟩) (fun hz3 => ?_)
    refine lv_if_ne (tgt := 23) hx hb dX12_go_17 (by decide) (fun hc4 => ?_) (fun hc4 => ?_)
    · have hF := it_n hc4 hF
      refine lv_aload_n hx hb dX12_go_23 rfl (lv_at hl 0 rfl) ?_
      refine va_get (D := D) (ci := 12) (v := .ref (ad 4)) (C := RX12) (T := TX12) (N := 31) hx hb hts hiX12 hown hK hP 0 rfl rfl 4 (by decide) hf16 (fun _ h9 => h9) rfl dX12_go_24 ?_
      refine lv_iload_n hx hb dX12_go_27 rfl (lv_at hl 1 rfl) ?_
      obtain ⟨hg5, hF⟩ := gd_s hF
      refine va_iald hx hb hK hP 3 2 rfl rfl (inB_in hg5) dX12_go_28 ?_
      refine lv_istore_n (lv' := [(3, .int (a0 4 p1.toNatClampNeg)), (0, .ref (ad 0)), (1, .int p1), (2, .int p2)]) hx hb dX12_go_29 rfl hl (by decide) rfl (fun ls hl => ?_)
      refine lv_aload_n hx hb dX12_go_30 rfl (lv_at hl 1 rfl) ?_
      refine va_get (D := D) (ci := 12) (v := .ref (ad 4)) (C := RX12) (T := TX12) (N := 31) hx hb hts hiX12 hown hK hP 0 rfl rfl 4 (by decide) hf16 (fun _ h9 => h9) rfl dX12_go_31 ?_
      refine lv_iload_n hx hb dX12_go_34 rfl (lv_at hl 2 rfl) ?_
      refine lv_iload_n hx hb dX12_go_35 rfl (lv_at hl 3 rfl) ?_
      obtain ⟨hg6, hF⟩ := gd_s hF
      refine va_iast hx hb hK hP hD hS 3 2 rfl rfl (inB_in hg6) dX12_go_36 (fun H locs hP hD hS => ?_)
      have hP := kPe (eu_wM4 ad ck f0 g0 a0 p1.toNatClampNeg p2) hP
      have hD := kDe (eu_wM4 ad ck f0 g0 a0 p1.toNatClampNeg p2) hD
      refine lv_aload_n hx hb dX12_go_37 rfl (lv_at hl 1 rfl) ?_
      refine lv_dup hx hb dX12_go_38 rfl ?_
      refine va_get (D := D) (ci := 12) (v := .int (f0 6)) (C := RX12) (T := TX12) (N := 31) hx hb hts hiX12 hown hK hP 0 rfl rfl 6 (by decide) hf89 (fun _ h9 => h9) rfl dX12_go_39 ?_
      refine lv_iconst (v := 1) hx hb dX12_go_42 (by decide) ?_
      refine lv_iadd hx hb dX12_go_43 ?_
      refine va_put (D := D) (ci := 12) (v := .int ((f0 6) + (1 : Int32))) (ty := .int) (C := RX12) (T := TX12) (N := 31) hx hb hts hiX12 tyX12 tyX12_ok nmX12 hown hK hP hD hS 0 rfl rfl 6 (by decide) hf89 (fun _ h9 => h9) rfl (tyX12_ok 6 (by decide)) rfl rfl (Nat.le_of_ble_eq_true rfl) dX12_go_44 (fun H locs hP hD hS => ?_)
      have hP := kPe (ef_wM0_6 ad ck f0 g0 (ua a0 4 p1.toNatClampNeg p2) ((f0 6) + (1 : Int32))) hP
      have hD := kDe (ef_wM0_6 ad ck f0 g0 (ua a0 4 p1.toNatClampNeg p2) ((f0 6) + (1 : Int32))) hD
      refine lv_iload_n hx hb dX12_go_47 rfl (lv_at hl 0 rfl) ?_
      have hF := (Option.some.inj hF).trans hp
      subst hF
      exact W.iret hx hb hr (fun t ht hW => ⟨rfl, by rw [ht]; exact hP, hS.F ht⟩) hS.2.2 dX12_go_48
    · have hF := it_p hc4 hF
      refine lv_bipush (v := (-102)) hx hb dX12_go_20 (by decide) ?_
      have hF := (Option.some.inj hF).trans hp
      subst hF
      exact W.iret hx hb hr (fun t ht hW => ⟨rfl, by rw [ht]; exact hP, hS.F ht⟩) hS.2.2 dX12_go_22
  · have hF := it_p hc2 hF
    refine lv_bipush (v := (-101)) hx hb dX12_go_8 (by decide) ?_
    have hF := (Option.some.inj hF).trans hp
    subst hF
    exact W.iret hx hb hr (fun t ht hW => ⟨rfl, by rw [ht]; exact hP, hS.F ht⟩) hS.2.2 dX12_go_10

def F_X12_sell (f0 : Nat → Int32) (g0 : Nat → Int64) (a0 : Nat → Nat → Int32) (p1 : Int32) (p2 : Int32) (p3 : Int32) : Option (Int32 × ST) := if (F_X12_isOne f0 g0 a0 p1) = 0 then some ((-101), f0, g0, a0) else if (F_X12_isOne f0 g0 a0 p3) = 0 then some ((-101), f0, g0, a0) else if (F_X12_within p2 0 1) = 0 then some ((-102), f0, g0, a0) else gd (inB (((2 : Int32) * p1) + p2) 10) (gd (inB (((2 : Int32) * p1) + p2) 10) (some ((a0 3 (((2 : Int32) * p1) + p2).toNatClampNeg), (upd f0 7 ((f0 7) + (1 : Int32))), g0, (ua a0 3 (((2 : Int32) * p1) + p2).toNatClampNeg p3))))
set_option maxHeartbeats 4000000 in
set_option maxRecDepth 100000 in
theorem c_X12_sell (l : Launch) (hz : Nat) (D : va_G) (ad : Nat → Nat) (ck : Nat → ClassId) (f0 : Nat → Int32) (g0 : Nat → Int64) (a0 : Nat → Nat → Int32) (p1 : Int32) (p2 : Int32) (p3 : Int32) (out : (Int32 × ST)) (hF : F_X12_sell f0 g0 a0 p1 p2 p3 = some out) : Met l yX12_sell wsX12_sell ({ frames := 2, cells := 0, slots := 0, locals := 43 }) (kW hz D vwCl (tM ck) (wM ad ck f0 g0 a0) [.ref (ad 0), .int p1, .int p2, .int p3]) (kQ D vwCl (some (.int out.1)) (wM ad ck f0 g0 a0) (wM ad ck out.2.1 out.2.2.1 out.2.2.2)) 0 0 (kAd (wM ad ck f0 g0 a0)) := by
  refine Met.ofW (cc := cX12_sell) (maxL := 5) (ret := (some .int)) (by decide) rfl ?_
  intro p e s m args below meth c s₁ B hml hv
  obtain ⟨rfl, hP, hE, hD0⟩ := hv
  have hx := B.exec
  have hb := B.bytes
  have hr := B.returns
  have hts := atoms_spec (ws := wsX12_sell) B.pre
  have hown : s.vm.findClass RX12 = some m.cls := findClass_of_methodNamed B.named
  have hlocks := B.notSynchronized
  have hK := hE.1
  have hnA := kAd_up hD0
  have hD := kD_self hD0
  have hS : va_S (kAd (wM ad ck f0 g0 a0)) s.heap s.heap [] := va_S.rf
  have hiX12 : ∀ w ∈ u_ws RX12 TX12 31, w ∈ wsX12_sell := by decide +kernel
  have hf13 := hts (.fieldLink RX12 13 "SpeltByFriendsModel" "holderOf" "[I") (by decide +kernel)
  have hf92 := hts (.fieldLink RX12 92 "SpeltByFriendsModel" "sold" "I") (by decide +kernel)
  have hl := lv_entry ([.ref (ad 0), .int p1, .int p2, .int p3]) (n := 5) (Nat.le_of_ble_eq_true rfl)
  rw [lg_entry_eq]
  generalize (lg_sl ([.ref (ad 0), .int p1, .int p2, .int p3]) ++ List.replicate (5 - (lg_sl ([.ref (ad 0), .int p1, .int p2, .int p3])).length) Slot.unset).toArray = ls at hl ⊢
  have hl : lv_has ls 5 [(0, .ref (ad 0)), (1, .int p1), (2, .int p2), (3, .int p3)] := hl
  obtain ⟨r, hF, hp⟩ : ∃ r, F_X12_sell f0 g0 a0 p1 p2 p3 = some r ∧ r = out := ⟨out, hF, rfl⟩
  unfold F_X12_sell at hF
  refine lv_aload_n hx hb dX12_sell_0 rfl (lv_at hl 0 rfl) ?_
  refine lv_iload_n hx hb dX12_sell_1 rfl (lv_at hl 1 rfl) ?_
  refine kS_b (va_runV (As := [.int p1]) (rest := []) ⟨hx, hb, hml, hown, hts⟩ (c_X12_isOne l hz D ad ck f0 g0 a0 p1) (cwV 1 hts gX12_sell_X12_isOne rfl rfl rfl ⟨rfl, pX12_isOne⟩ ⟨Nat.le_of_ble_eq_true rfl, Nat.le_of_ble_eq_true rfl⟩) (kR.preV (va_recv hK hP (ci := 12) (q0 := 0) rfl rfl) hP (hE.kept hS hnA)) rfl rfl hl.1 rfl (lv_room (Nat.le_of_ble_eq_true rfl)) dX12_sell_2 ⟨Nat.le_refl _, Nat.le_refl _⟩) (fun hz1 => ?_)
  refine lv_if_eq (tgt := 16) hx hb dX12_sell_5 (by decide) (fun hc2 => ?_) (fun hc2 => ?_)
  · have hF := it_p hc2 hF
    refine lv_bipush (v := (-101)) hx hb dX12_sell_16 (by decide) ?_
    have hF := (Option.some.inj hF).trans hp
    subst hF
    exact W.iret hx hb hr (fun t ht hW => ⟨rfl, by rw [ht]; exact hP, hS.F ht⟩) hS.2.2 dX12_sell_18
  · have hF := it_n hc2 hF
    refine lv_aload_n hx hb dX12_sell_8 rfl (lv_at hl 0 rfl) ?_
    refine lv_iload_n hx hb dX12_sell_9 rfl (lv_at hl 3 rfl) ?_
    refine kS_b (va_runV (As := [.int p3]) (rest := []) ⟨hx, hb, hml, hown, hts⟩ (c_X12_isOne l hz D ad ck f0 g0 a0 p3) (cwV 1 hts gX12_sell_X12_isOne rfl rfl rfl ⟨rfl, pX12_isOne⟩ ⟨Nat.le_of_ble_eq_true rfl, Nat.le_of_ble_eq_true rfl⟩) (kR.preV (va_recv hK hP (ci := 12) (q0 := 0) rfl rfl) hP (hE.kept hS hnA)) rfl rfl hl.1 rfl (lv_room (Nat.le_of_ble_eq_true rfl)) dX12_sell_10 ⟨Nat.le_refl _, Nat.le_refl _⟩) (fun hz3 => ?_)
    refine lv_if_ne (tgt := 19) hx hb dX12_sell_13 (by decide) (fun hc4 => ?_) (fun hc4 => ?_)
    · have hF := it_n hc4 hF
      refine lv_iload_n hx hb dX12_sell_19 rfl (lv_at hl 2 rfl) ?_
      refine lv_iconst (v := 0) hx hb dX12_sell_20 (by decide) ?_
      refine lv_iconst (v := 1) hx hb dX12_sell_21 (by decide) ?_
      refine kS_b (va_runS (As := [.int p2, .int 0, .int 1]) (rest := []) ⟨hx, hb, hml, hown, hts⟩ (c_X12_within l hz D (tM ck) p2 0 1) (va_cwS 3 hts gX12_sell_X12_within rfl rfl rfl pX12_within ⟨Nat.le_of_ble_eq_true rfl, Nat.le_of_ble_eq_true rfl⟩) (kR.preS kP_nil (hE.kept hS hnA)) rfl rfl hl.1 rfl (lv_room (Nat.le_of_ble_eq_true rfl)) dX12_sell_22 ⟨Nat.le_refl _, Nat.le_refl _⟩) (fun hz5 => ?_)
      refine lv_if_ne (tgt := 31) hx hb dX12_sell_25 (by decide) (fun hc6 => ?_) (fun hc6 => ?_)
      · have hF := it_n hc6 hF
        refine lv_aload_n hx hb dX12_sell_31 rfl (lv_at hl 0 rfl) ?_
        refine va_get (D := D) (ci := 12) (v := .ref (ad 3)) (C := RX12) (T := TX12) (N := 31) hx hb hts hiX12 hown hK hP 0 rfl rfl 3 (by decide) hf13 (fun _ h9 => h9) rfl dX12_sell_32 ?_
        refine lv_iconst (v := 2) hx hb dX12_sell_35 (by decide) ?_
        refine lv_iload_n hx hb dX12_sell_36 rfl (lv_at hl 1 rfl) ?_
        refine lv_imul hx hb dX12_sell_37 ?_
        refine lv_iload_n hx hb dX12_sell_38 rfl (lv_at hl 2 rfl) ?_
        refine lv_iadd hx hb dX12_sell_39 ?_
        obtain ⟨hg7, hF⟩ := gd_s hF
        refine va_iald hx hb hK hP 2 1 rfl rfl (inB_in hg7) dX12_sell_40 ?_
        refine lv_istore (lv' := [(4, .int (a0 3 (((2 : Int32) * p1) + p2).toNatClampNeg)), (0, .ref (ad 0)), (1, .int p1), (2, .int p2), (3, .int p3)]) hx hb dX12_sell_41 hl (by decide) rfl (fun ls hl => ?_)
        refine lv_aload_n hx hb dX12_sell_43 rfl (lv_at hl 1 rfl) ?_
        refine va_get (D := D) (ci := 12) (v := .ref (ad 3)) (C := RX12) (T := TX12) (N := 31) hx hb hts hiX12 hown hK hP 0 rfl rfl 3 (by decide) hf13 (fun _ h9 => h9) rfl dX12_sell_44 ?_
        refine lv_iconst (v := 2) hx hb dX12_sell_47 (by decide) ?_
        refine lv_iload_n hx hb dX12_sell_48 rfl (lv_at hl 2 rfl) ?_
        refine lv_imul hx hb dX12_sell_49 ?_
        refine lv_iload_n hx hb dX12_sell_50 rfl (lv_at hl 3 rfl) ?_
        refine lv_iadd hx hb dX12_sell_51 ?_
        refine lv_iload_n hx hb dX12_sell_52 rfl (lv_at hl 4 rfl) ?_
        obtain ⟨hg8, hF⟩ := gd_s hF
        refine va_iast hx hb hK hP hD hS 2 1 rfl rfl (inB_in hg8) dX12_sell_53 (fun H locs hP hD hS => ?_)
        have hP := kPe (eu_wM3 ad ck f0 g0 a0 (((2 : Int32) * p1) + p2).toNatClampNeg p3) hP
        have hD := kDe (eu_wM3 ad ck f0 g0 a0 (((2 : Int32) * p1) + p2).toNatClampNeg p3) hD
        refine lv_aload_n hx hb dX12_sell_54 rfl (lv_at hl 1 rfl) ?_
        refine lv_dup hx hb dX12_sell_55 rfl ?_
        refine va_get (D := D) (ci := 12) (v := .int (f0 7)) (C := RX12) (T := TX12) (N := 31) hx hb hts hiX12 hown hK hP 0 rfl rfl 7 (by decide) hf92 (fun _ h9 => h9) rfl dX12_sell_56 ?_
        refine lv_iconst (v := 1) hx hb dX12_sell_59 (by decide) ?_
        refine lv_iadd hx hb dX12_sell_60 ?_
        refine va_put (D := D) (ci := 12) (v := .int ((f0 7) + (1 : Int32))) (ty := .int) (C := RX12) (T := TX12) (N := 31) hx hb hts hiX12 tyX12 tyX12_ok nmX12 hown hK hP hD hS 0 rfl rfl 7 (by decide) hf92 (fun _ h9 => h9) rfl (tyX12_ok 7 (by decide)) rfl rfl (Nat.le_of_ble_eq_true rfl) dX12_sell_61 (fun H locs hP hD hS => ?_)
        have hP := kPe (ef_wM0_7 ad ck f0 g0 (ua a0 3 (((2 : Int32) * p1) + p2).toNatClampNeg p3) ((f0 7) + (1 : Int32))) hP
        have hD := kDe (ef_wM0_7 ad ck f0 g0 (ua a0 3 (((2 : Int32) * p1) + p2).toNatClampNeg p3) ((f0 7) + (1 : Int32))) hD
        refine lv_iload hx hb dX12_sell_64 (lv_at hl 0 rfl) ?_
        have hF := (Option.some.inj hF).trans hp
        subst hF
        exact W.iret hx hb hr (fun t ht hW => ⟨rfl, by rw [ht]; exact hP, hS.F ht⟩) hS.2.2 dX12_sell_66
      · have hF := it_p hc6 hF
        refine lv_bipush (v := (-102)) hx hb dX12_sell_28 (by decide) ?_
        have hF := (Option.some.inj hF).trans hp
        subst hF
        exact W.iret hx hb hr (fun t ht hW => ⟨rfl, by rw [ht]; exact hP, hS.F ht⟩) hS.2.2 dX12_sell_30
    · have hF := it_p hc4 hF
      refine lv_bipush (v := (-101)) hx hb dX12_sell_16 (by decide) ?_
      have hF := (Option.some.inj hF).trans hp
      subst hF
      exact W.iret hx hb hr (fun t ht hW => ⟨rfl, by rw [ht]; exact hP, hS.F ht⟩) hS.2.2 dX12_sell_18

def F_X12_with (p0 : Int32) (p1 : Int32) (p2 : Int32) : Int32 := if p2 = 0 then (p0 &&& (((1 : Int32) <<< (p1 &&& 31)) ^^^ (-1 : Int32))) else (p0 ||| ((1 : Int32) <<< (p1 &&& 31)))
set_option maxHeartbeats 4000000 in
set_option maxRecDepth 100000 in
theorem c_X12_with (l : Launch) (hz : Nat) (D : va_G) (tys : List (ClassId × FieldType)) (p0 : Int32) (p1 : Int32) (p2 : Int32) : Met l yX12_with wsX12_with ({ frames := 0, cells := 0, slots := 0, locals := 0 }) (kR hz D vwCl tys [] [.int p0, .int p1, .int p2]) (kZi (F_X12_with p0 p1 p2)) 0 0 (fun _ => False) := by
  generalize hF : F_X12_with p0 p1 p2 = out
  refine Met.ofW (cc := cX12_with) (maxL := 3) (ret := (some .int)) (by decide) rfl ?_
  intro p e s m args below meth c s₁ B hml hv
  obtain ⟨rfl, hP, hE⟩ := hv
  have hx := B.exec
  have hb := B.bytes
  have hr := B.returns
  have hts := atoms_spec (ws := wsX12_with) B.pre
  have hown : s.vm.findClass RX12 = some m.cls := findClass_of_methodNamed B.named
  have hlocks := B.notSynchronized
  have hK := hE.1
  have hl := lv_entry ([.int p0, .int p1, .int p2]) (n := 3) (Nat.le_of_ble_eq_true rfl)
  rw [lg_entry_eq]
  generalize (lg_sl ([.int p0, .int p1, .int p2]) ++ List.replicate (3 - (lg_sl ([.int p0, .int p1, .int p2])).length) Slot.unset).toArray = ls at hl ⊢
  have hl : lv_has ls 3 [(0, .int p0), (1, .int p1), (2, .int p2)] := hl
  obtain ⟨r, hF, hp⟩ : ∃ r, F_X12_with p0 p1 p2 = r ∧ r = out := ⟨out, hF, rfl⟩
  unfold F_X12_with at hF
  refine lv_iload_n hx hb dX12_with_0 rfl (lv_at hl 2 rfl) ?_
  refine lv_if_eq (tgt := 12) hx hb dX12_with_1 (by decide) (fun hc1 => ?_) (fun hc1 => ?_)
  · have hF := it_p hc1 hF
    refine lv_iload_n hx hb dX12_with_12 rfl (lv_at hl 0 rfl) ?_
    refine lv_iconst (v := 1) hx hb dX12_with_13 (by decide) ?_
    refine lv_iload_n hx hb dX12_with_14 rfl (lv_at hl 1 rfl) ?_
    refine lv_ishl hx hb dX12_with_15 ?_
    refine lv_iconst (v := (-1)) hx hb dX12_with_16 (by decide) ?_
    refine lv_ixor hx hb dX12_with_17 ?_
    refine lv_iand hx hb dX12_with_18 ?_
    exact W.iret hx hb hr (fun t ht hW => ⟨_, rfl, hF.trans hp, ht⟩) (fun q hq => by cases hq) dX12_with_19
  · have hF := it_n hc1 hF
    refine lv_iload_n hx hb dX12_with_4 rfl (lv_at hl 0 rfl) ?_
    refine lv_iconst (v := 1) hx hb dX12_with_5 (by decide) ?_
    refine lv_iload_n hx hb dX12_with_6 rfl (lv_at hl 1 rfl) ?_
    refine lv_ishl hx hb dX12_with_7 ?_
    refine lv_ior hx hb dX12_with_8 ?_
    refine lv_goto (tgt := 19) hx hb dX12_with_9 (by decide) ?_
    exact W.iret hx hb hr (fun t ht hW => ⟨_, rfl, hF.trans hp, ht⟩) (fun q hq => by cases hq) dX12_with_19

def F_X12_quarrel (f0 : Nat → Int32) (g0 : Nat → Int64) (a0 : Nat → Nat → Int32) (p1 : Int32) (p2 : Int32) (p3 : Int32) : Option (Int32 × ST) := if (F_X12_isOne f0 g0 a0 p1) = 0 then some ((-101), f0, g0, a0) else if (F_X12_isOne f0 g0 a0 p2) = 0 then some ((-101), f0, g0, a0) else if p1 = p2 then some ((-101), f0, g0, a0) else gd (inB p1 5) (gd (inB p1 5) (gd (inB p1 5) (gd (inB p2 5) (gd (inB p2 5) (some ((((a0 5 p1.toNatClampNeg) >>> (p2 &&& 31)) &&& (1 : Int32)), f0, g0, (ua (ua a0 5 p1.toNatClampNeg (F_X12_with (a0 5 p1.toNatClampNeg) p2 p3)) 5 p2.toNatClampNeg (F_X12_with ((ua a0 5 p1.toNatClampNeg (F_X12_with (a0 5 p1.toNatClampNeg) p2 p3)) 5 p2.toNatClampNeg) p1 p3))))))))
set_option maxHeartbeats 4000000 in
set_option maxRecDepth 100000 in
theorem c_X12_quarrel (l : Launch) (hz : Nat) (D : va_G) (ad : Nat → Nat) (ck : Nat → ClassId) (f0 : Nat → Int32) (g0 : Nat → Int64) (a0 : Nat → Nat → Int32) (p1 : Int32) (p2 : Int32) (p3 : Int32) (out : (Int32 × ST)) (hF : F_X12_quarrel f0 g0 a0 p1 p2 p3 = some out) : Met l yX12_quarrel wsX12_quarrel ({ frames := 2, cells := 0, slots := 0, locals := 43 }) (kW hz D vwCl (tM ck) (wM ad ck f0 g0 a0) [.ref (ad 0), .int p1, .int p2, .int p3]) (kQ D vwCl (some (.int out.1)) (wM ad ck f0 g0 a0) (wM ad ck out.2.1 out.2.2.1 out.2.2.2)) 0 0 (kAd (wM ad ck f0 g0 a0)) := by
  refine Met.ofW (cc := cX12_quarrel) (maxL := 5) (ret := (some .int)) (by decide) rfl ?_
  intro p e s m args below meth c s₁ B hml hv
  obtain ⟨rfl, hP, hE, hD0⟩ := hv
  have hx := B.exec
  have hb := B.bytes
  have hr := B.returns
  have hts := atoms_spec (ws := wsX12_quarrel) B.pre
  have hown : s.vm.findClass RX12 = some m.cls := findClass_of_methodNamed B.named
  have hlocks := B.notSynchronized
  have hK := hE.1
  have hnA := kAd_up hD0
  have hD := kD_self hD0
  have hS : va_S (kAd (wM ad ck f0 g0 a0)) s.heap s.heap [] := va_S.rf
  have hiX12 : ∀ w ∈ u_ws RX12 TX12 31, w ∈ wsX12_quarrel := by decide +kernel
  have hf19 := hts (.fieldLink RX12 19 "SpeltByFriendsModel" "quarrelsOf" "[I") (by decide +kernel)
  have hl := lv_entry ([.ref (ad 0), .int p1, .int p2, .int p3]) (n := 5) (Nat.le_of_ble_eq_true rfl)
  rw [lg_entry_eq]
  generalize (lg_sl ([.ref (ad 0), .int p1, .int p2, .int p3]) ++ List.replicate (5 - (lg_sl ([.ref (ad 0), .int p1, .int p2, .int p3])).length) Slot.unset).toArray = ls at hl ⊢
  have hl : lv_has ls 5 [(0, .ref (ad 0)), (1, .int p1), (2, .int p2), (3, .int p3)] := hl
  obtain ⟨r, hF, hp⟩ : ∃ r, F_X12_quarrel f0 g0 a0 p1 p2 p3 = some r ∧ r = out := ⟨out, hF, rfl⟩
  unfold F_X12_quarrel at hF
  refine lv_aload_n hx hb dX12_quarrel_0 rfl (lv_at hl 0 rfl) ?_
  refine lv_iload_n hx hb dX12_quarrel_1 rfl (lv_at hl 1 rfl) ?_
  refine kS_b (va_runV (As := [.int p1]) (rest := []) ⟨hx, hb, hml, hown, hts⟩ (c_X12_isOne l hz D ad ck f0 g0 a0 p1) (cwV 1 hts gX12_quarrel_X12_isOne rfl rfl rfl ⟨rfl, pX12_isOne⟩ ⟨Nat.le_of_ble_eq_true rfl, Nat.le_of_ble_eq_true rfl⟩) (kR.preV (va_recv hK hP (ci := 12) (q0 := 0) rfl rfl) hP (hE.kept hS hnA)) rfl rfl hl.1 rfl (lv_room (Nat.le_of_ble_eq_true rfl)) dX12_quarrel_2 ⟨Nat.le_refl _, Nat.le_refl _⟩) (fun hz1 => ?_)
  refine lv_if_eq (tgt := 21) hx hb dX12_quarrel_5 (by decide) (fun hc2 => ?_) (fun hc2 => ?_)
  · have hF := it_p hc2 hF
    refine lv_bipush (v := (-101)) hx hb dX12_quarrel_21 (by decide) ?_
    have hF := (Option.some.inj hF).trans hp
    subst hF
    exact W.iret hx hb hr (fun t ht hW => ⟨rfl, by rw [ht]; exact hP, hS.F ht⟩) hS.2.2 dX12_quarrel_23
  · have hF := it_n hc2 hF
    refine lv_aload_n hx hb dX12_quarrel_8 rfl (lv_at hl 0 rfl) ?_
    refine lv_iload_n hx hb dX12_quarrel_9 rfl (lv_at hl 2 rfl) ?_
    refine kS_b (va_runV (As := [.int p2]) (rest := []) ⟨hx, hb, hml, hown, hts⟩ (c_X12_isOne l hz D ad ck f0 g0 a0 p2) (cwV 1 hts gX12_quarrel_X12_isOne rfl rfl rfl ⟨rfl, pX12_isOne⟩ ⟨Nat.le_of_ble_eq_true rfl, Nat.le_of_ble_eq_true rfl⟩) (kR.preV (va_recv hK hP (ci := 12) (q0 := 0) rfl rfl) hP (hE.kept hS hnA)) rfl rfl hl.1 rfl (lv_room (Nat.le_of_ble_eq_true rfl)) dX12_quarrel_10 ⟨Nat.le_refl _, Nat.le_refl _⟩) (fun hz3 => ?_)
    refine lv_if_eq (tgt := 21) hx hb dX12_quarrel_13 (by decide) (fun hc4 => ?_) (fun hc4 => ?_)
    · have hF := it_p hc4 hF
      refine lv_bipush (v := (-101)) hx hb dX12_quarrel_21 (by decide) ?_
      have hF := (Option.some.inj hF).trans hp
      subst hF
      exact W.iret hx hb hr (fun t ht hW => ⟨rfl, by rw [ht]; exact hP, hS.F ht⟩) hS.2.2 dX12_quarrel_23
    · have hF := it_n hc4 hF
      refine lv_iload_n hx hb dX12_quarrel_16 rfl (lv_at hl 1 rfl) ?_
      refine lv_iload_n hx hb dX12_quarrel_17 rfl (lv_at hl 2 rfl) ?_
      refine lv_icmp_ne (tgt := 24) hx hb dX12_quarrel_18 (by decide) (fun hc5 => ?_) (fun hc5 => ?_)
      · have hF := it_n hc5 hF
        refine lv_aload_n hx hb dX12_quarrel_24 rfl (lv_at hl 0 rfl) ?_
        refine va_get (D := D) (ci := 12) (v := .ref (ad 5)) (C := RX12) (T := TX12) (N := 31) hx hb hts hiX12 hown hK hP 0 rfl rfl 5 (by decide) hf19 (fun _ h9 => h9) rfl dX12_quarrel_25 ?_
        refine lv_iload_n hx hb dX12_quarrel_28 rfl (lv_at hl 1 rfl) ?_
        obtain ⟨hg6, hF⟩ := gd_s hF
        refine va_iald hx hb hK hP 4 3 rfl rfl (inB_in hg6) dX12_quarrel_29 ?_
        refine lv_iload_n hx hb dX12_quarrel_30 rfl (lv_at hl 2 rfl) ?_
        refine lv_ishr hx hb dX12_quarrel_31 ?_
        refine lv_iconst (v := 1) hx hb dX12_quarrel_32 (by decide) ?_
        refine lv_iand hx hb dX12_quarrel_33 ?_
        refine lv_istore (lv' := [(4, .int (((a0 5 p1.toNatClampNeg) >>> (p2 &&& 31)) &&& (1 : Int32))), (0, .ref (ad 0)), (1, .int p1), (2, .int p2), (3, .int p3)]) hx hb dX12_quarrel_34 hl (by decide) rfl (fun ls hl => ?_)
        refine lv_aload_n hx hb dX12_quarrel_36 rfl (lv_at hl 1 rfl) ?_
        refine va_get (D := D) (ci := 12) (v := .ref (ad 5)) (C := RX12) (T := TX12) (N := 31) hx hb hts hiX12 hown hK hP 0 rfl rfl 5 (by decide) hf19 (fun _ h9 => h9) rfl dX12_quarrel_37 ?_
        refine lv_iload_n hx hb dX12_quarrel_40 rfl (lv_at hl 2 rfl) ?_
        refine lv_aload_n hx hb dX12_quarrel_41 rfl (lv_at hl 1 rfl) ?_
        refine va_get (D := D) (ci := 12) (v := .ref (ad 5)) (C := RX12) (T := TX12) (N := 31) hx hb hts hiX12 hown hK hP 0 rfl rfl 5 (by decide) hf19 (fun _ h9 => h9) rfl dX12_quarrel_42 ?_
        refine lv_iload_n hx hb dX12_quarrel_45 rfl (lv_at hl 2 rfl) ?_
        obtain ⟨hg7, hF⟩ := gd_s hF
        refine va_iald hx hb hK hP 4 3 rfl rfl (inB_in hg7) dX12_quarrel_46 ?_
        refine lv_iload_n hx hb dX12_quarrel_47 rfl (lv_at hl 3 rfl) ?_
        refine lv_iload_n hx hb dX12_quarrel_48 rfl (lv_at hl 4 rfl) ?_
        refine kS_i (va_runS (As := [.int (a0 5 p1.toNatClampNeg), .int p2, .int p3]) (rest := [.int p1, .ref (ad 5)]) ⟨hx, hb, hml, hown, hts⟩ (c_X12_with l hz D (tM ck) (a0 5 p1.toNatClampNeg) p2 p3) (va_cwS 3 hts gX12_quarrel_X12_with rfl rfl rfl pX12_with ⟨Nat.le_of_ble_eq_true rfl, Nat.le_of_ble_eq_true rfl⟩) (kR.preS kP_nil (hE.kept hS hnA)) rfl rfl hl.1 rfl (lv_room (Nat.le_of_ble_eq_true rfl)) dX12_quarrel_49 ⟨Nat.le_refl _, Nat.le_refl _⟩) ?_
        obtain ⟨hg8, hF⟩ := gd_s hF
        refine va_iast hx hb hK hP hD hS 4 3 rfl rfl (inB_in hg8) dX12_quarrel_52 (fun H locs hP hD hS => ?_)
        have hP := kPe (eu_wM5 ad ck f0 g0 a0 p1.toNatClampNeg (F_X12_with (a0 5 p1.toNatClampNeg) p2 p3)) hP
        have hD := kDe (eu_wM5 ad ck f0 g0 a0 p1.toNatClampNeg (F_X12_with (a0 5 p1.toNatClampNeg) p2 p3)) hD
        refine lv_aload_n hx hb dX12_quarrel_53 rfl (lv_at hl 1 rfl) ?_
        refine va_get (D := D) (ci := 12) (v := .ref (ad 5)) (C := RX12) (T := TX12) (N := 31) hx hb hts hiX12 hown hK hP 0 rfl rfl 5 (by decide) hf19 (fun _ h9 => h9) rfl dX12_quarrel_54 ?_
        refine lv_iload_n hx hb dX12_quarrel_57 rfl (lv_at hl 3 rfl) ?_
        refine lv_aload_n hx hb dX12_quarrel_58 rfl (lv_at hl 1 rfl) ?_
        refine va_get (D := D) (ci := 12) (v := .ref (ad 5)) (C := RX12) (T := TX12) (N := 31) hx hb hts hiX12 hown hK hP 0 rfl rfl 5 (by decide) hf19 (fun _ h9 => h9) rfl dX12_quarrel_59 ?_
        refine lv_iload_n hx hb dX12_quarrel_62 rfl (lv_at hl 3 rfl) ?_
        obtain ⟨hg9, hF⟩ := gd_s hF
        refine va_iald hx hb hK hP 4 3 rfl rfl (inB_in hg9) dX12_quarrel_63 ?_
        refine lv_iload_n hx hb dX12_quarrel_64 rfl (lv_at hl 2 rfl) ?_
        refine lv_iload_n hx hb dX12_quarrel_65 rfl (lv_at hl 4 rfl) ?_
        refine kS_i (va_runS (As := [.int ((ua a0 5 p1.toNatClampNeg (F_X12_with (a0 5 p1.toNatClampNeg) p2 p3)) 5 p2.toNatClampNeg), .int p1, .int p3]) (rest := [.int p2, .ref (ad 5)]) ⟨hx, hb, hml, hown, hts⟩ (c_X12_with l hz D (tM ck) ((ua a0 5 p1.toNatClampNeg (F_X12_with (a0 5 p1.toNatClampNeg) p2 p3)) 5 p2.toNatClampNeg) p1 p3) (va_cwS 3 hts gX12_quarrel_X12_with rfl rfl rfl pX12_with ⟨Nat.le_of_ble_eq_true rfl, Nat.le_of_ble_eq_true rfl⟩) (kR.preS kP_nil (hE.kept hS hnA)) rfl rfl hl.1 rfl (lv_room (Nat.le_of_ble_eq_true rfl)) dX12_quarrel_66 ⟨Nat.le_refl _, Nat.le_refl _⟩) ?_
        obtain ⟨hg10, hF⟩ := gd_s hF
        refine va_iast hx hb hK hP hD hS 4 3 rfl rfl (inB_in hg10) dX12_quarrel_69 (fun H locs hP hD hS => ?_)
        have hP := kPe (eu_wM5 ad ck f0 g0 (ua a0 5 p1.toNatClampNeg (F_X12_with (a0 5 p1.toNatClampNeg) p2 p3)) p2.toNatClampNeg (F_X12_with ((ua a0 5 p1.toNatClampNeg (F_X12_with (a0 5 p1.toNatClampNeg) p2 p3)) 5 p2.toNatClampNeg) p1 p3)) hP
        have hD := kDe (eu_wM5 ad ck f0 g0 (ua a0 5 p1.toNatClampNeg (F_X12_with (a0 5 p1.toNatClampNeg) p2 p3)) p2.toNatClampNeg (F_X12_with ((ua a0 5 p1.toNatClampNeg (F_X12_with (a0 5 p1.toNatClampNeg) p2 p3)) 5 p2.toNatClampNeg) p1 p3)) hD
        refine lv_iload hx hb dX12_quarrel_70 (lv_at hl 0 rfl) ?_
        have hF := (Option.some.inj hF).trans hp
        subst hF
        exact W.iret hx hb hr (fun t ht hW => ⟨rfl, by rw [ht]; exact hP, hS.F ht⟩) hS.2.2 dX12_quarrel_72
      · have hF := it_p hc5 hF
        refine lv_bipush (v := (-101)) hx hb dX12_quarrel_21 (by decide) ?_
        have hF := (Option.some.inj hF).trans hp
        subst hF
        exact W.iret hx hb hr (fun t ht hW => ⟨rfl, by rw [ht]; exact hP, hS.F ht⟩) hS.2.2 dX12_quarrel_23

def F_X12_written (f0 : Nat → Int32) (g0 : Nat → Int64) (a0 : Nat → Nat → Int32) (p1 : Int32) (p2 : Int32) : Option Int32 := if (F_X12_isOne f0 g0 a0 p1) = 0 then some (-101) else if (F_X12_isCompany f0 g0 a0 p2) = 0 then some (-102) else if (F_X12_isIn p2 p1) = 0 then some (-102) else (F_X12_isWritten f0 g0 a0 p1 p2).bind fun r7 => if r7 = 0 then some 0 else some 1
set_option maxHeartbeats 4000000 in
set_option maxRecDepth 100000 in
theorem c_X12_written (l : Launch) (hz : Nat) (D : va_G) (ad : Nat → Nat) (ck : Nat → ClassId) (f0 : Nat → Int32) (g0 : Nat → Int64) (a0 : Nat → Nat → Int32) (p1 : Int32) (p2 : Int32) (out : Int32) (hF : F_X12_written f0 g0 a0 p1 p2 = some out) : Met l yX12_written wsX12_written ({ frames := 4, cells := 0, slots := 0, locals := 92 }) (kR hz D vwCl (tM ck) (wM ad ck f0 g0 a0) [.ref (ad 0), .int p1, .int p2]) (kZi out) 0 0 (fun _ => False) := by
  refine Met.ofW (cc := cX12_written) (maxL := 3) (ret := (some .int)) (by decide) rfl ?_
  intro p e s m args below meth c s₁ B hml hv
  obtain ⟨rfl, hP, hE⟩ := hv
  have hx := B.exec
  have hb := B.bytes
  have hr := B.returns
  have hts := atoms_spec (ws := wsX12_written) B.pre
  have hown : s.vm.findClass RX12 = some m.cls := findClass_of_methodNamed B.named
  have hlocks := B.notSynchronized
  have hK := hE.1
  have hl := lv_entry ([.ref (ad 0), .int p1, .int p2]) (n := 3) (Nat.le_of_ble_eq_true rfl)
  rw [lg_entry_eq]
  generalize (lg_sl ([.ref (ad 0), .int p1, .int p2]) ++ List.replicate (3 - (lg_sl ([.ref (ad 0), .int p1, .int p2])).length) Slot.unset).toArray = ls at hl ⊢
  have hl : lv_has ls 3 [(0, .ref (ad 0)), (1, .int p1), (2, .int p2)] := hl
  obtain ⟨r, hF, hp⟩ : ∃ r, F_X12_written f0 g0 a0 p1 p2 = some r ∧ r = out := ⟨out, hF, rfl⟩
  unfold F_X12_written at hF
  refine lv_aload_n hx hb dX12_written_0 rfl (lv_at hl 0 rfl) ?_
  refine lv_iload_n hx hb dX12_written_1 rfl (lv_at hl 1 rfl) ?_
  refine kS_b (va_runV (As := [.int p1]) (rest := []) ⟨hx, hb, hml, hown, hts⟩ (c_X12_isOne l hz D ad ck f0 g0 a0 p1) (cwV 1 hts gX12_written_X12_isOne rfl rfl rfl ⟨rfl, pX12_isOne⟩ ⟨Nat.le_of_ble_eq_true rfl, Nat.le_of_ble_eq_true rfl⟩) (kR.preV (va_recv hK hP (ci := 12) (q0 := 0) rfl rfl) hP hE) rfl rfl hl.1 rfl (lv_room (Nat.le_of_ble_eq_true rfl)) dX12_written_2 ⟨Nat.le_refl _, Nat.le_refl _⟩) (fun hz1 => ?_)
  refine lv_if_ne (tgt := 11) hx hb dX12_written_5 (by decide) (fun hc2 => ?_) (fun hc2 => ?_)
  · have hF := it_n hc2 hF
    refine lv_aload_n hx hb dX12_written_11 rfl (lv_at hl 0 rfl) ?_
    refine lv_iload_n hx hb dX12_written_12 rfl (lv_at hl 2 rfl) ?_
    refine kS_b (va_runV (As := [.int p2]) (rest := []) ⟨hx, hb, hml, hown, hts⟩ (c_X12_isCompany l hz D ad ck f0 g0 a0 p2) (cwV 1 hts gX12_written_X12_isCompany rfl rfl rfl ⟨rfl, pX12_isCompany⟩ ⟨Nat.le_of_ble_eq_true rfl, Nat.le_of_ble_eq_true rfl⟩) (kR.preV (va_recv hK hP (ci := 12) (q0 := 0) rfl rfl) hP hE) rfl rfl hl.1 rfl (lv_room (Nat.le_of_ble_eq_true rfl)) dX12_written_13 ⟨Nat.le_refl _, Nat.le_refl _⟩) (fun hz3 => ?_)
    refine lv_if_eq (tgt := 27) hx hb dX12_written_16 (by decide) (fun hc4 => ?_) (fun hc4 => ?_)
    · have hF := it_p hc4 hF
      refine lv_bipush (v := (-102)) hx hb dX12_written_27 (by decide) ?_
      exact W.iret hx hb hr (fun t ht hW => ⟨_, rfl, (Option.some.inj hF).trans hp, ht⟩) (fun q hq => by cases hq) dX12_written_29
    · have hF := it_n hc4 hF
      refine lv_iload_n hx hb dX12_written_19 rfl (lv_at hl 2 rfl) ?_
      refine lv_iload_n hx hb dX12_written_20 rfl (lv_at hl 1 rfl) ?_
      refine kS_b (va_runS (As := [.int p2, .int p1]) (rest := []) ⟨hx, hb, hml, hown, hts⟩ (c_X12_isIn l hz D (tM ck) p2 p1) (va_cwS 2 hts gX12_written_X12_isIn rfl rfl rfl pX12_isIn ⟨Nat.le_of_ble_eq_true rfl, Nat.le_of_ble_eq_true rfl⟩) (kR.preS kP_nil hE) rfl rfl hl.1 rfl (lv_room (Nat.le_of_ble_eq_true rfl)) dX12_written_21 ⟨Nat.le_refl _, Nat.le_refl _⟩) (fun hz5 => ?_)
      refine lv_if_ne (tgt := 30) hx hb dX12_written_24 (by decide) (fun hc6 => ?_) (fun hc6 => ?_)
      · have hF := it_n hc6 hF
        refine lv_aload_n hx hb dX12_written_30 rfl (lv_at hl 0 rfl) ?_
        refine lv_iload_n hx hb dX12_written_31 rfl (lv_at hl 1 rfl) ?_
        refine lv_iload_n hx hb dX12_written_32 rfl (lv_at hl 2 rfl) ?_
        obtain ⟨r7, he7, hF⟩ := bd_s hF
        refine kS_b (va_runV (As := [.int p1, .int p2]) (rest := []) ⟨hx, hb, hml, hown, hts⟩ (c_X12_isWritten l hz D ad ck f0 g0 a0 p1 p2 r7 he7) (cwV 2 hts gX12_written_X12_isWritten rfl rfl rfl ⟨rfl, pX12_isWritten⟩ ⟨Nat.le_of_ble_eq_true rfl, Nat.le_of_ble_eq_true rfl⟩) (kR.preV (va_recv hK hP (ci := 12) (q0 := 0) rfl rfl) hP hE) rfl rfl hl.1 rfl (lv_room (Nat.le_of_ble_eq_true rfl)) dX12_written_33 ⟨Nat.le_refl _, Nat.le_refl _⟩) (fun hz8 => ?_)
        refine lv_if_eq (tgt := 43) hx hb dX12_written_36 (by decide) (fun hc9 => ?_) (fun hc9 => ?_)
        · have hF := it_p hc9 hF
          refine lv_iconst (v := 0) hx hb dX12_written_43 (by decide) ?_
          exact W.iret hx hb hr (fun t ht hW => ⟨_, rfl, (Option.some.inj hF).trans hp, ht⟩) (fun q hq => by cases hq) dX12_written_44
        · have hF := it_n hc9 hF
          refine lv_iconst (v := 1) hx hb dX12_written_39 (by decide) ?_
          refine lv_goto (tgt := 44) hx hb dX12_written_40 (by decide) ?_
          exact W.iret hx hb hr (fun t ht hW => ⟨_, rfl, (Option.some.inj hF).trans hp, ht⟩) (fun q hq => by cases hq) dX12_written_44
      · have hF := it_p hc6 hF
        refine lv_bipush (v := (-102)) hx hb dX12_written_27 (by decide) ?_
        exact W.iret hx hb hr (fun t ht hW => ⟨_, rfl, (Option.some.inj hF).trans hp, ht⟩) (fun q hq => by cases hq) dX12_written_29
  · have hF := it_p hc2 hF
    refine lv_bipush (v := (-101)) hx hb dX12_written_8 (by decide) ?_
    exact W.iret hx hb hr (fun t ht hW => ⟨_, rfl, (Option.some.inj hF).trans hp, ht⟩) (fun q hq => by cases hq) dX12_written_10

def F_X12_roomBy (f0 : Nat → Int32) (g0 : Nat → Int64) (a0 : Nat → Nat → Int32) (p1 : Int32) (p2 : Int32) : Int32 := ((p1 >>> (((2 : Int32) * (((f0 1) - (1 : Int32)) - p2)) &&& 31)) &&& (3 : Int32))
set_option maxHeartbeats 4000000 in
set_option maxRecDepth 100000 in
theorem c_X12_roomBy (l : Launch) (hz : Nat) (D : va_G) (ad : Nat → Nat) (ck : Nat → ClassId) (f0 : Nat → Int32) (g0 : Nat → Int64) (a0 : Nat → Nat → Int32) (p1 : Int32) (p2 : Int32) : Met l yX12_roomBy wsX12_roomBy ({ frames := 0, cells := 0, slots := 0, locals := 0 }) (kR hz D vwCl (tM ck) (wM ad ck f0 g0 a0) [.ref (ad 0), .int p1, .int p2]) (kZi (F_X12_roomBy f0 g0 a0 p1 p2)) 0 0 (fun _ => False) := by
  generalize hF : F_X12_roomBy f0 g0 a0 p1 p2 = out
  refine Met.ofW (cc := cX12_roomBy) (maxL := 3) (ret := (some .int)) (by decide) rfl ?_
  intro p e s m args below meth c s₁ B hml hv
  obtain ⟨rfl, hP, hE⟩ := hv
  have hx := B.exec
  have hb := B.bytes
  have hr := B.returns
  have hts := atoms_spec (ws := wsX12_roomBy) B.pre
  have hown : s.vm.findClass RX12 = some m.cls := findClass_of_methodNamed B.named
  have hlocks := B.notSynchronized
  have hK := hE.1
  have hiX12 : ∀ w ∈ u_ws RX12 TX12 31, w ∈ wsX12_roomBy := by decide +kernel
  have hf83 := hts (.fieldLink RX12 83 "SpeltByFriendsModel" "people" "I") (by decide +kernel)
  have hl := lv_entry ([.ref (ad 0), .int p1, .int p2]) (n := 3) (Nat.le_of_ble_eq_true rfl)
  rw [lg_entry_eq]
  generalize (lg_sl ([.ref (ad 0), .int p1, .int p2]) ++ List.replicate (3 - (lg_sl ([.ref (ad 0), .int p1, .int p2])).length) Slot.unset).toArray = ls at hl ⊢
  have hl : lv_has ls 3 [(0, .ref (ad 0)), (1, .int p1), (2, .int p2)] := hl
  obtain ⟨r, hF, hp⟩ : ∃ r, F_X12_roomBy f0 g0 a0 p1 p2 = r ∧ r = out := ⟨out, hF, rfl⟩
  unfold F_X12_roomBy at hF
  refine lv_iload_n hx hb dX12_roomBy_0 rfl (lv_at hl 1 rfl) ?_
  refine lv_iconst (v := 2) hx hb dX12_roomBy_1 (by decide) ?_
  refine lv_aload_n hx hb dX12_roomBy_2 rfl (lv_at hl 0 rfl) ?_
  refine va_get (D := D) (ci := 12) (v := .int (f0 1)) (C := RX12) (T := TX12) (N := 31) hx hb hts hiX12 hown hK hP 0 rfl rfl 1 (by decide) hf83 (fun _ h9 => h9) rfl dX12_roomBy_3 ?_
  refine lv_iconst (v := 1) hx hb dX12_roomBy_6 (by decide) ?_
  refine lv_isub hx hb dX12_roomBy_7 ?_
  refine lv_iload_n hx hb dX12_roomBy_8 rfl (lv_at hl 2 rfl) ?_
  refine lv_isub hx hb dX12_roomBy_9 ?_
  refine lv_imul hx hb dX12_roomBy_10 ?_
  refine lv_ishr hx hb dX12_roomBy_11 ?_
  refine lv_iconst (v := 3) hx hb dX12_roomBy_12 (by decide) ?_
  refine lv_iand hx hb dX12_roomBy_13 ?_
  exact W.iret hx hb hr (fun t ht hW => ⟨_, rfl, hF.trans hp, ht⟩) (fun q hq => by cases hq) dX12_roomBy_14

def N_X12_movesBy_33 (f0 : Nat → Int32) (g0 : Nat → Int64) (a0 : Nat → Nat → Int32) (x1_4 : Int32) (x3_33 : Int32) (t0_33 : Int32) (t1_33 : Int32) : Option ((Int32 × Int32) ⊕ Int32) := some (.inl ((t1_33 + t0_33), (x3_33 + 1)))
def B_X12_movesBy_4 (f0 : Nat → Int32) (g0 : Nat → Int64) (a0 : Nat → Nat → Int32) (x1_4 : Int32) (x2_4 : Int32) (x3_4 : Int32) : Option ((Int32 × Int32) ⊕ Int32) := if (f0 1) ≤ x3_4 then Option.map Sum.inr (some x2_4) else gd (inB x3_4 5) (if (F_X12_roomBy f0 g0 a0 x1_4 x3_4) = (a0 4 x3_4.toNatClampNeg) then N_X12_movesBy_33 f0 g0 a0 x1_4 x3_4 0 x2_4 else N_X12_movesBy_33 f0 g0 a0 x1_4 x3_4 1 x2_4)
def N_X12_movesBy_4 (f0 : Nat → Int32) (g0 : Nat → Int64) (a0 : Nat → Nat → Int32) (x1_4 : Int32) (x2_4 : Int32) (x3_4 : Int32) : Option Int32 := lpN (fun q4 : (Int32 × Int32) => B_X12_movesBy_4 f0 g0 a0 x1_4 q4.1 q4.2) kFu (x2_4, x3_4)
def F_X12_movesBy (f0 : Nat → Int32) (g0 : Nat → Int64) (a0 : Nat → Nat → Int32) (p1 : Int32) : Option Int32 := N_X12_movesBy_4 f0 g0 a0 p1 0 0
set_option maxHeartbeats 4000000 in
set_option maxRecDepth 100000 in
theorem c_X12_movesBy (l : Launch) (hz : Nat) (D : va_G) (ad : Nat → Nat) (ck : Nat → ClassId) (f0 : Nat → Int32) (g0 : Nat → Int64) (a0 : Nat → Nat → Int32) (p1 : Int32) (out : Int32) (hF : F_X12_movesBy f0 g0 a0 p1 = some out) : Met l yX12_movesBy wsX12_movesBy ({ frames := 1, cells := 0, slots := 0, locals := 22 }) (kR hz D vwCl (tM ck) (wM ad ck f0 g0 a0) [.ref (ad 0), .int p1]) (kZi out) 0 0 (fun _ => False) := by
  refine Met.ofW (cc := cX12_movesBy) (maxL := 4) (ret := (some .int)) (by decide) rfl ?_
  intro p e s m args below meth c s₁ B hml hv
  obtain ⟨rfl, hP, hE⟩ := hv
  have hx := B.exec
  have hb := B.bytes
  have hr := B.returns
  have hts := atoms_spec (ws := wsX12_movesBy) B.pre
  have hown : s.vm.findClass RX12 = some m.cls := findClass_of_methodNamed B.named
  have hlocks := B.notSynchronized
  have hK := hE.1
  have hiX12 : ∀ w ∈ u_ws RX12 TX12 31, w ∈ wsX12_movesBy := by decide +kernel
  have hf16 := hts (.fieldLink RX12 16 "SpeltByFriendsModel" "roomOf" "[I") (by decide +kernel)
  have hf83 := hts (.fieldLink RX12 83 "SpeltByFriendsModel" "people" "I") (by decide +kernel)
  have hN_4 : ∀ (x1_4 : Int32) (n4 : Nat) (x2_4 : Int32) (x3_4 : Int32) (ls : Array Slot), lv_has ls 4 [(0, .ref (ad 0)), (1, .int x1_4), (2, .int x2_4), (3, .int x3_4)] → ∀ r : Int32, lpN (fun q4 : (Int32 × Int32) => B_X12_movesBy_4 f0 g0 a0 x1_4 q4.1 q4.2) n4 (x2_4, x3_4) = some r → (fun r => r = out) r → W p l e (headSpec wsX12_movesBy ({ frames := 1, cells := 0, slots := 0, locals := 22 })).room s m [.ref (ad 0), .int p1].toArray below meth c s.heap [] 0 0 (MQ below (kZi out) [.ref (ad 0), .int p1].toArray s 0 0 (fun _ => False)) (F0 m 4 ls []) := by
    intro x1_4 n4
    induction n4 with
    | zero => intro x2_4 x3_4 ls hl r hF hp; exact (lp_z hF).elim
    | succ n4 ih4 =>
      intro x2_4 x3_4 ls hl r hF hp
      obtain ⟨rs, hF, hp⟩ := lpN_K (P := (fun r => r = out)) hF hp
      have hN_33 : ∀ (x3_33 : Int32) (t0_33 : Int32) (t1_33 : Int32) (ls : Array Slot), lv_has ls 4 [(0, .ref (ad 0)), (1, .int x1_4), (3, .int x3_33)] → ∀ r : ((Int32 × Int32) ⊕ Int32), N_X12_movesBy_33 f0 g0 a0 x1_4 x3_33 t0_33 t1_33 = some r → (lpK (fun q4 : (Int32 × Int32) => B_X12_movesBy_4 f0 g0 a0 x1_4 q4.1 q4.2) n4 (fun r => r = out)) r → W p l e (headSpec wsX12_movesBy ({ frames := 1, cells := 0, slots := 0, locals := 22 })).room s m [.ref (ad 0), .int p1].toArray below meth c s.heap [] 0 0 (MQ below (kZi out) [.ref (ad 0), .int p1].toArray s 0 0 (fun _ => False)) (F0 m 33 ls [.int t0_33, .int t1_33]) := by
        intro x3_33 t0_33 t1_33 ls hl r hF hp
        unfold N_X12_movesBy_33 at hF
        refine lv_iadd hx hb dX12_movesBy_33 ?_
        refine lv_istore_n (lv' := [(2, .int (t1_33 + t0_33)), (0, .ref (ad 0)), (1, .int x1_4), (3, .int x3_33)]) hx hb dX12_movesBy_34 rfl hl (by decide) rfl (fun ls hl => ?_)
        refine lv_iinc (v := (x3_33 + 1)) (lv' := [(3, .int (x3_33 + 1)), (2, .int (t1_33 + t0_33)), (0, .ref (ad 0)), (1, .int x1_4)]) hx hb dX12_movesBy_35 hl (k := 3) rfl rfl (by decide) rfl (fun ls hl => ?_)
        refine lv_goto (tgt := 4) hx hb dX12_movesBy_38 (by decide) ?_
        have hF := Option.some.inj hF
        subst hF
        obtain ⟨r, hF, hp⟩ := hp
        exact ih4 (t1_33 + t0_33) (x3_33 + 1) ls (lv_sub hl [2, 3, 1, 0] rfl) r hF hp
      unfold B_X12_movesBy_4 at hF
      refine lv_iload_n hx hb dX12_movesBy_4 rfl (lv_at hl 3 rfl) ?_
      refine lv_aload_n hx hb dX12_movesBy_5 rfl (lv_at hl 0 rfl) ?_
      refine va_get (D := D) (ci := 12) (v := .int (f0 1)) (C := RX12) (T := TX12) (N := 31) hx hb hts hiX12 hown hK hP 0 rfl rfl 1 (by decide) hf83 (fun _ h9 => h9) rfl dX12_movesBy_6 ?_
      refine lv_icmp_ge (tgt := 41) hx hb dX12_movesBy_9 (by decide) (fun hc1 => ?_) (fun hc1 => ?_)
      · have hF := it_p hc1 hF
        obtain ⟨r, hF1, hr0⟩ := mp_s hF
        clear hF
        subst hr0
        have hF := hF1
        clear hF1
        have hp : (fun r => r = out) r := hp
        refine lv_iload_n hx hb dX12_movesBy_41 rfl (lv_at hl 2 rfl) ?_
        exact W.iret hx hb hr (fun t ht hW => ⟨_, rfl, (Option.some.inj hF).trans hp, ht⟩) (fun q hq => by cases hq) dX12_movesBy_42
      · have hF := it_n hc1 hF
        refine lv_iload_n hx hb dX12_movesBy_12 rfl (lv_at hl 2 rfl) ?_
        refine lv_aload_n hx hb dX12_movesBy_13 rfl (lv_at hl 0 rfl) ?_
        refine lv_iload_n hx hb dX12_movesBy_14 rfl (lv_at hl 1 rfl) ?_
        refine lv_iload_n hx hb dX12_movesBy_15 rfl (lv_at hl 3 rfl) ?_
        refine kS_i (va_runV (As := [.int x1_4, .int x3_4]) (rest := [.int x2_4]) ⟨hx, hb, hml, hown, hts⟩ (c_X12_roomBy l hz D ad ck f0 g0 a0 x1_4 x3_4) (cwV 2 hts gX12_movesBy_X12_roomBy rfl rfl rfl ⟨rfl, pX12_roomBy⟩ ⟨Nat.le_of_ble_eq_true rfl, Nat.le_of_ble_eq_true rfl⟩) (kR.preV (va_recv hK hP (ci := 12) (q0 := 0) rfl rfl) hP hE) rfl rfl hl.1 rfl (lv_room (Nat.le_of_ble_eq_true rfl)) dX12_movesBy_16 ⟨Nat.le_refl _, Nat.le_refl _⟩) ?_
        refine lv_aload_n hx hb dX12_movesBy_19 rfl (lv_at hl 0 rfl) ?_
        refine va_get (D := D) (ci := 12) (v := .ref (ad 4)) (C := RX12) (T := TX12) (N := 31) hx hb hts hiX12 hown hK hP 0 rfl rfl 4 (by decide) hf16 (fun _ h9 => h9) rfl dX12_movesBy_20 ?_
        refine lv_iload_n hx hb dX12_movesBy_23 rfl (lv_at hl 3 rfl) ?_
        obtain ⟨hg2, hF⟩ := gd_s hF
        refine va_iald hx hb hK hP 3 2 rfl rfl (inB_in hg2) dX12_movesBy_24 ?_
        refine lv_icmp_ne (tgt := 32) hx hb dX12_movesBy_25 (by decide) (fun hc3 => ?_) (fun hc3 => ?_)
        · have hF := it_n hc3 hF
          refine lv_iconst (v := 1) hx hb dX12_movesBy_32 (by decide) ?_
          exact hN_33 x3_4 1 x2_4 ls (lv_sub hl [0, 1, 3] rfl) _ hF hp
        · have hF := it_p hc3 hF
          refine lv_iconst (v := 0) hx hb dX12_movesBy_28 (by decide) ?_
          refine lv_goto (tgt := 33) hx hb dX12_movesBy_29 (by decide) ?_
          exact hN_33 x3_4 0 x2_4 ls (lv_sub hl [0, 1, 3] rfl) _ hF hp
  have hl := lv_entry ([.ref (ad 0), .int p1]) (n := 4) (Nat.le_of_ble_eq_true rfl)
  rw [lg_entry_eq]
  generalize (lg_sl ([.ref (ad 0), .int p1]) ++ List.replicate (4 - (lg_sl ([.ref (ad 0), .int p1])).length) Slot.unset).toArray = ls at hl ⊢
  have hl : lv_has ls 4 [(0, .ref (ad 0)), (1, .int p1)] := hl
  obtain ⟨r, hF, hp⟩ : ∃ r, F_X12_movesBy f0 g0 a0 p1 = some r ∧ r = out := ⟨out, hF, rfl⟩
  unfold F_X12_movesBy at hF
  refine lv_iconst (v := 0) hx hb dX12_movesBy_0 (by decide) ?_
  refine lv_istore_n (lv' := [(2, .int 0), (0, .ref (ad 0)), (1, .int p1)]) hx hb dX12_movesBy_1 rfl hl (by decide) rfl (fun ls hl => ?_)
  refine lv_iconst (v := 0) hx hb dX12_movesBy_2 (by decide) ?_
  refine lv_istore_n (lv' := [(3, .int 0), (2, .int 0), (0, .ref (ad 0)), (1, .int p1)]) hx hb dX12_movesBy_3 rfl hl (by decide) rfl (fun ls hl => ?_)
  exact hN_4 p1 kFu 0 0 ls (lv_sub hl [2, 3, 1, 0] rfl) _ hF hp

def N_X12_isWrittenIf_39 (f0 : Nat → Int32) (g0 : Nat → Int64) (a0 : Nat → Nat → Int32) (x1_5 : Int32) (x2_5 : Int32) (x4_39 : Int32) (t0_39 : Int32) (t1_39 : Int32) : Option ((Int32 × Int32) ⊕ Int32) := some (.inl ((t1_39 ||| t0_39), (x4_39 + 1)))
def B_X12_isWrittenIf_5 (f0 : Nat → Int32) (g0 : Nat → Int64) (a0 : Nat → Nat → Int32) (x1_5 : Int32) (x2_5 : Int32) (x3_5 : Int32) (x4_5 : Int32) : Option ((Int32 × Int32) ⊕ Int32) := if (f0 1) ≤ x4_5 then Option.map Sum.inr ((F_X12_isWritten f0 g0 a0 x1_5 x3_5).bind fun r2 => some r2) else if (F_X12_roomBy f0 g0 a0 x2_5 x4_5) = (F_X12_roomBy f0 g0 a0 x2_5 x1_5) then N_X12_isWrittenIf_39 f0 g0 a0 x1_5 x2_5 x4_5 ((1 : Int32) <<< (x4_5 &&& 31)) x3_5 else N_X12_isWrittenIf_39 f0 g0 a0 x1_5 x2_5 x4_5 0 x3_5
def N_X12_isWrittenIf_5 (f0 : Nat → Int32) (g0 : Nat → Int64) (a0 : Nat → Nat → Int32) (x1_5 : Int32) (x2_5 : Int32) (x3_5 : Int32) (x4_5 : Int32) : Option Int32 := lpN (fun q5 : (Int32 × Int32) => B_X12_isWrittenIf_5 f0 g0 a0 x1_5 x2_5 q5.1 q5.2) kFu (x3_5, x4_5)
def F_X12_isWrittenIf (f0 : Nat → Int32) (g0 : Nat → Int64) (a0 : Nat → Nat → Int32) (p1 : Int32) (p2 : Int32) : Option Int32 := N_X12_isWrittenIf_5 f0 g0 a0 p1 p2 0 0
set_option maxHeartbeats 4000000 in
set_option maxRecDepth 100000 in
theorem c_X12_isWrittenIf (l : Launch) (hz : Nat) (D : va_G) (ad : Nat → Nat) (ck : Nat → ClassId) (f0 : Nat → Int32) (g0 : Nat → Int64) (a0 : Nat → Nat → Int32) (p1 : Int32) (p2 : Int32) (out : Int32) (hF : F_X12_isWrittenIf f0 g0 a0 p1 p2 = some out) : Met l yX12_isWrittenIf wsX12_isWrittenIf ({ frames := 4, cells := 0, slots := 0, locals := 92 }) (kR hz D vwCl (tM ck) (wM ad ck f0 g0 a0) [.ref (ad 0), .int p1, .int p2]) (kZb out) 0 0 (fun _ => False) := by
  refine Met.ofW (cc := cX12_isWrittenIf) (maxL := 5) (ret := (some .boolean)) (by decide) rfl ?_
  intro p e s m args below meth c s₁ B hml hv
  obtain ⟨rfl, hP, hE⟩ := hv
  have hx := B.exec
  have hb := B.bytes
  have hr := B.returns
  have hts := atoms_spec (ws := wsX12_isWrittenIf) B.pre
  have hown : s.vm.findClass RX12 = some m.cls := findClass_of_methodNamed B.named
  have hlocks := B.notSynchronized
  have hK := hE.1
  have hiX12 : ∀ w ∈ u_ws RX12 TX12 31, w ∈ wsX12_isWrittenIf := by decide +kernel
  have hf83 := hts (.fieldLink RX12 83 "SpeltByFriendsModel" "people" "I") (by decide +kernel)
  have hN_5 : ∀ (x1_5 : Int32) (x2_5 : Int32) (n5 : Nat) (x3_5 : Int32) (x4_5 : Int32) (ls : Array Slot), lv_has ls 5 [(0, .ref (ad 0)), (1, .int x1_5), (2, .int x2_5), (3, .int x3_5), (4, .int x4_5)] → ∀ r : Int32, lpN (fun q5 : (Int32 × Int32) => B_X12_isWrittenIf_5 f0 g0 a0 x1_5 x2_5 q5.1 q5.2) n5 (x3_5, x4_5) = some r → (fun r => r = out) r → W p l e (headSpec wsX12_isWrittenIf ({ frames := 4, cells := 0, slots := 0, locals := 92 })).room s m [.ref (ad 0), .int p1, .int p2].toArray below meth c s.heap [] 0 0 (MQ below (kZb out) [.ref (ad 0), .int p1, .int p2].toArray s 0 0 (fun _ => False)) (F0 m 5 ls []) := by
    intro x1_5 x2_5 n5
    induction n5 with
    | zero => intro x3_5 x4_5 ls hl r hF hp; exact (lp_z hF).elim
    | succ n5 ih5 =>
      intro x3_5 x4_5 ls hl r hF hp
      obtain ⟨rs, hF, hp⟩ := lpN_K (P := (fun r => r = out)) hF hp
      have hN_39 : ∀ (x4_39 : Int32) (t0_39 : Int32) (t1_39 : Int32) (ls : Array Slot), lv_has ls 5 [(0, .ref (ad 0)), (1, .int x1_5), (2, .int x2_5), (4, .int x4_39)] → ∀ r : ((Int32 × Int32) ⊕ Int32), N_X12_isWrittenIf_39 f0 g0 a0 x1_5 x2_5 x4_39 t0_39 t1_39 = some r → (lpK (fun q5 : (Int32 × Int32) => B_X12_isWrittenIf_5 f0 g0 a0 x1_5 x2_5 q5.1 q5.2) n5 (fun r => r = out)) r → W p l e (headSpec wsX12_isWrittenIf ({ frames := 4, cells := 0, slots := 0, locals := 92 })).room s m [.ref (ad 0), .int p1, .int p2].toArray below meth c s.heap [] 0 0 (MQ below (kZb out) [.ref (ad 0), .int p1, .int p2].toArray s 0 0 (fun _ => False)) (F0 m 39 ls [.int t0_39, .int t1_39]) := by
        intro x4_39 t0_39 t1_39 ls hl r hF hp
        unfold N_X12_isWrittenIf_39 at hF
        refine lv_ior hx hb dX12_isWrittenIf_39 ?_
        refine lv_istore_n (lv' := [(3, .int (t1_39 ||| t0_39)), (0, .ref (ad 0)), (1, .int x1_5), (2, .int x2_5), (4, .int x4_39)]) hx hb dX12_isWrittenIf_40 rfl hl (by decide) rfl (fun ls hl => ?_)
        refine lv_iinc (v := (x4_39 + 1)) (lv' := [(4, .int (x4_39 + 1)), (3, .int (t1_39 ||| t0_39)), (0, .ref (ad 0)), (1, .int x1_5), (2, .int x2_5)]) hx hb dX12_isWrittenIf_41 hl (k := 4) rfl rfl (by decide) rfl (fun ls hl => ?_)
        refine lv_goto (tgt := 5) hx hb dX12_isWrittenIf_44 (by decide) ?_
        have hF := Option.some.inj hF
        subst hF
        obtain ⟨r, hF, hp⟩ := hp
        exact ih5 (t1_39 ||| t0_39) (x4_39 + 1) ls (lv_sub hl [2, 3, 4, 1, 0] rfl) r hF hp
      unfold B_X12_isWrittenIf_5 at hF
      refine lv_iload hx hb dX12_isWrittenIf_5 (lv_at hl 4 rfl) ?_
      refine lv_aload_n hx hb dX12_isWrittenIf_7 rfl (lv_at hl 0 rfl) ?_
      refine va_get (D := D) (ci := 12) (v := .int (f0 1)) (C := RX12) (T := TX12) (N := 31) hx hb hts hiX12 hown hK hP 0 rfl rfl 1 (by decide) hf83 (fun _ h9 => h9) rfl dX12_isWrittenIf_8 ?_
      refine lv_icmp_ge (tgt := 47) hx hb dX12_isWrittenIf_11 (by decide) (fun hc1 => ?_) (fun hc1 => ?_)
      · have hF := it_p hc1 hF
        obtain ⟨r, hF1, hr0⟩ := mp_s hF
        clear hF
        subst hr0
        have hF := hF1
        clear hF1
        have hp : (fun r => r = out) r := hp
        refine lv_aload_n hx hb dX12_isWrittenIf_47 rfl (lv_at hl 0 rfl) ?_
        refine lv_iload_n hx hb dX12_isWrittenIf_48 rfl (lv_at hl 1 rfl) ?_
        refine lv_iload_n hx hb dX12_isWrittenIf_49 rfl (lv_at hl 3 rfl) ?_
        obtain ⟨r2, he2, hF⟩ := bd_s hF
        refine kS_b (va_runV (As := [.int x1_5, .int x3_5]) (rest := []) ⟨hx, hb, hml, hown, hts⟩ (c_X12_isWritten l hz D ad ck f0 g0 a0 x1_5 x3_5 r2 he2) (cwV 2 hts gX12_isWrittenIf_X12_isWritten rfl rfl rfl ⟨rfl, pX12_isWritten⟩ ⟨Nat.le_of_ble_eq_true rfl, Nat.le_of_ble_eq_true rfl⟩) (kR.preV (va_recv hK hP (ci := 12) (q0 := 0) rfl rfl) hP hE) rfl rfl hl.1 rfl (lv_room (Nat.le_of_ble_eq_true rfl)) dX12_isWrittenIf_50 ⟨Nat.le_refl _, Nat.le_refl _⟩) (fun hz3 => ?_)
        have hv := (Option.some.inj hF).trans hp
        exact W.zret hx hb hr hz3 (fun t ht hW => ⟨_, rfl, ⟨hv, by rw [← hv]; exact hz3⟩, ht⟩) (fun q hq => by cases hq) dX12_isWrittenIf_53
      · have hF := it_n hc1 hF
        refine lv_iload_n hx hb dX12_isWrittenIf_14 rfl (lv_at hl 3 rfl) ?_
        refine lv_aload_n hx hb dX12_isWrittenIf_15 rfl (lv_at hl 0 rfl) ?_
        refine lv_iload_n hx hb dX12_isWrittenIf_16 rfl (lv_at hl 2 rfl) ?_
        refine lv_iload hx hb dX12_isWrittenIf_17 (lv_at hl 4 rfl) ?_
        refine kS_i (va_runV (As := [.int x2_5, .int x4_5]) (rest := [.int x3_5]) ⟨hx, hb, hml, hown, hts⟩ (c_X12_roomBy l hz D ad ck f0 g0 a0 x2_5 x4_5) (cwV 2 hts gX12_isWrittenIf_X12_roomBy rfl rfl rfl ⟨rfl, pX12_roomBy⟩ ⟨Nat.le_of_ble_eq_true rfl, Nat.le_of_ble_eq_true rfl⟩) (kR.preV (va_recv hK hP (ci := 12) (q0 := 0) rfl rfl) hP hE) rfl rfl hl.1 rfl (lv_room (Nat.le_of_ble_eq_true rfl)) dX12_isWrittenIf_19 ⟨Nat.le_refl _, Nat.le_refl _⟩) ?_
        refine lv_aload_n hx hb dX12_isWrittenIf_22 rfl (lv_at hl 0 rfl) ?_
        refine lv_iload_n hx hb dX12_isWrittenIf_23 rfl (lv_at hl 2 rfl) ?_
        refine lv_iload_n hx hb dX12_isWrittenIf_24 rfl (lv_at hl 1 rfl) ?_
        refine kS_i (va_runV (As := [.int x2_5, .int x1_5]) (rest := [.int (F_X12_roomBy f0 g0 a0 x2_5 x4_5), .int x3_5]) ⟨hx, hb, hml, hown, hts⟩ (c_X12_roomBy l hz D ad ck f0 g0 a0 x2_5 x1_5) (cwV 2 hts gX12_isWrittenIf_X12_roomBy rfl rfl rfl ⟨rfl, pX12_roomBy⟩ ⟨Nat.le_of_ble_eq_true rfl, Nat.le_of_ble_eq_true rfl⟩) (kR.preV (va_recv hK hP (ci := 12) (q0 := 0) rfl rfl) hP hE) rfl rfl hl.1 rfl (lv_room (Nat.le_of_ble_eq_true rfl)) dX12_isWrittenIf_25 ⟨Nat.le_refl _, Nat.le_refl _⟩) ?_
        refine lv_icmp_ne (tgt := 38) hx hb dX12_isWrittenIf_28 (by decide) (fun hc4 => ?_) (fun hc4 => ?_)
        · have hF := it_n hc4 hF
          refine lv_iconst (v := 0) hx hb dX12_isWrittenIf_38 (by decide) ?_
          exact hN_39 x4_5 0 x3_5 ls (lv_sub hl [0, 1, 2, 4] rfl) _ hF hp
        · have hF := it_p hc4 hF
          refine lv_iconst (v := 1) hx hb dX12_isWrittenIf_31 (by decide) ?_
          refine lv_iload hx hb dX12_isWrittenIf_32 (lv_at hl 4 rfl) ?_
          refine lv_ishl hx hb dX12_isWrittenIf_34 ?_
          refine lv_goto (tgt := 39) hx hb dX12_isWrittenIf_35 (by decide) ?_
          exact hN_39 x4_5 ((1 : Int32) <<< (x4_5 &&& 31)) x3_5 ls (lv_sub hl [0, 1, 2, 4] rfl) _ hF hp
  have hl := lv_entry ([.ref (ad 0), .int p1, .int p2]) (n := 5) (Nat.le_of_ble_eq_true rfl)
  rw [lg_entry_eq]
  generalize (lg_sl ([.ref (ad 0), .int p1, .int p2]) ++ List.replicate (5 - (lg_sl ([.ref (ad 0), .int p1, .int p2])).length) Slot.unset).toArray = ls at hl ⊢
  have hl : lv_has ls 5 [(0, .ref (ad 0)), (1, .int p1), (2, .int p2)] := hl
  obtain ⟨r, hF, hp⟩ : ∃ r, F_X12_isWrittenIf f0 g0 a0 p1 p2 = some r ∧ r = out := ⟨out, hF, rfl⟩
  unfold F_X12_isWrittenIf at hF
  refine lv_iconst (v := 0) hx hb dX12_isWrittenIf_0 (by decide) ?_
  refine lv_istore_n (lv' := [(3, .int 0), (0, .ref (ad 0)), (1, .int p1), (2, .int p2)]) hx hb dX12_isWrittenIf_1 rfl hl (by decide) rfl (fun ls hl => ?_)
  refine lv_iconst (v := 0) hx hb dX12_isWrittenIf_2 (by decide) ?_
  refine lv_istore (lv' := [(4, .int 0), (3, .int 0), (0, .ref (ad 0)), (1, .int p1), (2, .int p2)]) hx hb dX12_isWrittenIf_3 hl (by decide) rfl (fun ls hl => ?_)
  exact hN_5 p1 p2 kFu 0 0 ls (lv_sub hl [2, 3, 4, 1, 0] rfl) _ hF hp

def N_X12_movesNow_78 (f0 : Nat → Int32) (g0 : Nat → Int64) (a0 : Nat → Nat → Int32) (x1_9 : Int32) (x2_9 : Int32) (x3_78 : Int32) (x5_78 : Int32) (t0_78 : Int32) : Option ((Int32 × Int32 × Int32) ⊕ Int32) := some (.inl (x3_78, t0_78, (x5_78 + 1)))
def N_X12_movesNow_61 (f0 : Nat → Int32) (g0 : Nat → Int64) (a0 : Nat → Nat → Int32) (x1_9 : Int32) (x2_9 : Int32) (x4_61 : Int32) (x5_61 : Int32) (x6_61 : Int32) (t0_61 : Int32) : Option ((Int32 × Int32 × Int32) ⊕ Int32) := if x6_61 = 0 then N_X12_movesNow_78 f0 g0 a0 x1_9 x2_9 t0_61 x5_61 x4_61 else (F_X12_movesBy f0 g0 a0 x5_61).bind fun r10 => N_X12_movesNow_78 f0 g0 a0 x1_9 x2_9 t0_61 x5_61 r10
def N_X12_movesNow_48 (f0 : Nat → Int32) (g0 : Nat → Int64) (a0 : Nat → Nat → Int32) (x1_9 : Int32) (x2_9 : Int32) (x3_48 : Int32) (x4_48 : Int32) (x5_48 : Int32) (t0_48 : Int32) : Option ((Int32 × Int32 × Int32) ⊕ Int32) := if t0_48 = 0 then N_X12_movesNow_61 f0 g0 a0 x1_9 x2_9 x4_48 x5_48 t0_48 x3_48 else N_X12_movesNow_61 f0 g0 a0 x1_9 x2_9 x4_48 x5_48 t0_48 x5_48
def N_X12_movesNow_47 (f0 : Nat → Int32) (g0 : Nat → Int64) (a0 : Nat → Nat → Int32) (x1_9 : Int32) (x2_9 : Int32) (x3_47 : Int32) (x4_47 : Int32) (x5_47 : Int32) : Option ((Int32 × Int32 × Int32) ⊕ Int32) := N_X12_movesNow_48 f0 g0 a0 x1_9 x2_9 x3_47 x4_47 x5_47 0
def B_X12_movesNow_9 (f0 : Nat → Int32) (g0 : Nat → Int64) (a0 : Nat → Nat → Int32) (x1_9 : Int32) (x2_9 : Int32) (x3_9 : Int32) (x4_9 : Int32) (x5_9 : Int32) : Option ((Int32 × Int32 × Int32) ⊕ Int32) := if ((1 : Int32) <<< (((2 : Int32) * (f0 1)) &&& 31)) ≤ x5_9 then Option.map Sum.inr (if x3_9 = (-1) then some (-1) else if x2_9 = 0 then some x4_9 else if (F_X12_isOne f0 g0 a0 (x2_9 - (10 : Int32))) = 0 then some (-1) else some (F_X12_roomBy f0 g0 a0 x3_9 (x2_9 - (10 : Int32)))) else (F_X12_movesBy f0 g0 a0 x5_9).bind fun r6 => if x4_9 ≤ r6 then N_X12_movesNow_47 f0 g0 a0 x1_9 x2_9 x3_9 x4_9 x5_9 else (F_X12_isWrittenIf f0 g0 a0 x1_9 x5_9).bind fun r11 => if r11 = 0 then N_X12_movesNow_47 f0 g0 a0 x1_9 x2_9 x3_9 x4_9 x5_9 else N_X12_movesNow_48 f0 g0 a0 x1_9 x2_9 x3_9 x4_9 x5_9 1
def N_X12_movesNow_9 (f0 : Nat → Int32) (g0 : Nat → Int64) (a0 : Nat → Nat → Int32) (x1_9 : Int32) (x2_9 : Int32) (x3_9 : Int32) (x4_9 : Int32) (x5_9 : Int32) : Option Int32 := lpN (fun q9 : (Int32 × Int32 × Int32) => B_X12_movesNow_9 f0 g0 a0 x1_9 x2_9 q9.1 q9.2.1 q9.2.2) kFu (x3_9, x4_9, x5_9)
def F_X12_movesNow (f0 : Nat → Int32) (g0 : Nat → Int64) (a0 : Nat → Nat → Int32) (p1 : Int32) (p2 : Int32) : Option Int32 := N_X12_movesNow_9 f0 g0 a0 p1 p2 (-1) 268435456 0
set_option maxHeartbeats 4000000 in
set_option maxRecDepth 100000 in
theorem c_X12_movesNow (l : Launch) (hz : Nat) (D : va_G) (ad : Nat → Nat) (ck : Nat → ClassId) (f0 : Nat → Int32) (g0 : Nat → Int64) (a0 : Nat → Nat → Int32) (p1 : Int32) (p2 : Int32) (out : Int32) (hF : F_X12_movesNow f0 g0 a0 p1 p2 = some out) : Met l yX12_movesNow wsX12_movesNow ({ frames := 5, cells := 0, slots := 0, locals := 116 }) (kR hz D vwCl (tM ck) (wM ad ck f0 g0 a0) [.ref (ad 0), .int p1, .int p2]) (kZi out) 0 0 (fun _ => False) := by
  refine Met.ofW (cc := cX12_movesNow) (maxL := 7) (ret := (some .int)) (by decide) rfl ?_
  intro p e s m args below meth c s₁ B hml hv
  obtain ⟨rfl, hP, hE⟩ := hv
  have hx := B.exec
  have hb := B.bytes
  have hr := B.returns
  have hts := atoms_spec (ws := wsX12_movesNow) B.pre
  have hown : s.vm.findClass RX12 = some m.cls := findClass_of_methodNamed B.named
  have hlocks := B.notSynchronized
  have hK := hE.1
  have hiX12 : ∀ w ∈ u_ws RX12 TX12 31, w ∈ wsX12_movesNow := by decide +kernel
  have hf83 := hts (.fieldLink RX12 83 "SpeltByFriendsModel" "people" "I") (by decide +kernel)
  have hN_9 : ∀ (x1_9 : Int32) (x2_9 : Int32) (n9 : Nat) (x3_9 : Int32) (x4_9 : Int32) (x5_9 : Int32) (ls : Array Slot), lv_has ls 7 [(0, .ref (ad 0)), (1, .int x1_9), (2, .int x2_9), (3, .int x3_9), (4, .int x4_9), (5, .int x5_9)] → ∀ r : Int32, lpN (fun q9 : (Int32 × Int32 × Int32) => B_X12_movesNow_9 f0 g0 a0 x1_9 x2_9 q9.1 q9.2.1 q9.2.2) n9 (x3_9, x4_9, x5_9) = some r → (fun r => r = out) r → W p l e (headSpec wsX12_movesNow ({ frames := 5, cells := 0, slots := 0, locals := 116 })).room s m [.ref (ad 0), .int p1, .int p2].toArray below meth c s.heap [] 0 0 (MQ below (kZi out) [.ref (ad 0), .int p1, .int p2].toArray s 0 0 (fun _ => False)) (F0 m 9 ls []) := by
    intro x1_9 x2_9 n9
    induction n9 with
    | zero => intro x3_9 x4_9 x5_9 ls hl r hF hp; exact (lp_z hF).elim
    | succ n9 ih9 =>
      intro x3_9 x4_9 x5_9 ls hl r hF hp
      obtain ⟨rs, hF, hp⟩ := lpN_K (P := (fun r => r = out)) hF hp
      have hN_78 : ∀ (x3_78 : Int32) (x5_78 : Int32) (t0_78 : Int32) (ls : Array Slot), lv_has ls 7 [(0, .ref (ad 0)), (1, .int x1_9), (2, .int x2_9), (3, .int x3_78), (5, .int x5_78)] → ∀ r : ((Int32 × Int32 × Int32) ⊕ Int32), N_X12_movesNow_78 f0 g0 a0 x1_9 x2_9 x3_78 x5_78 t0_78 = some r → (lpK (fun q9 : (Int32 × Int32 × Int32) => B_X12_movesNow_9 f0 g0 a0 x1_9 x2_9 q9.1 q9.2.1 q9.2.2) n9 (fun r => r = out)) r → W p l e (headSpec wsX12_movesNow ({ frames := 5, cells := 0, slots := 0, locals := 116 })).room s m [.ref (ad 0), .int p1, .int p2].toArray below meth c s.heap [] 0 0 (MQ below (kZi out) [.ref (ad 0), .int p1, .int p2].toArray s 0 0 (fun _ => False)) (F0 m 78 ls [.int t0_78]) := by
        intro x3_78 x5_78 t0_78 ls hl r hF hp
        unfold N_X12_movesNow_78 at hF
        refine lv_istore (lv' := [(4, .int t0_78), (0, .ref (ad 0)), (1, .int x1_9), (2, .int x2_9), (3, .int x3_78), (5, .int x5_78)]) hx hb dX12_movesNow_78 hl (by decide) rfl (fun ls hl => ?_)
        refine lv_iinc (v := (x5_78 + 1)) (lv' := [(5, .int (x5_78 + 1)), (4, .int t0_78), (0, .ref (ad 0)), (1, .int x1_9), (2, .int x2_9), (3, .int x3_78)]) hx hb dX12_movesNow_80 hl (k := 5) rfl rfl (by decide) rfl (fun ls hl => ?_)
        refine lv_goto (tgt := 9) hx hb dX12_movesNow_83 (by decide) ?_
        have hF := Option.some.inj hF
        subst hF
        obtain ⟨r, hF, hp⟩ := hp
        exact ih9 x3_78 t0_78 (x5_78 + 1) ls (lv_sub hl [2, 3, 4, 5, 1, 0] rfl) r hF hp
      have hN_61 : ∀ (x4_61 : Int32) (x5_61 : Int32) (x6_61 : Int32) (t0_61 : Int32) (ls : Array Slot), lv_has ls 7 [(0, .ref (ad 0)), (1, .int x1_9), (2, .int x2_9), (4, .int x4_61), (5, .int x5_61), (6, .int x6_61)] → ∀ r : ((Int32 × Int32 × Int32) ⊕ Int32), N_X12_movesNow_61 f0 g0 a0 x1_9 x2_9 x4_61 x5_61 x6_61 t0_61 = some r → (lpK (fun q9 : (Int32 × Int32 × Int32) => B_X12_movesNow_9 f0 g0 a0 x1_9 x2_9 q9.1 q9.2.1 q9.2.2) n9 (fun r => r = out)) r → W p l e (headSpec wsX12_movesNow ({ frames := 5, cells := 0, slots := 0, locals := 116 })).room s m [.ref (ad 0), .int p1, .int p2].toArray below meth c s.heap [] 0 0 (MQ below (kZi out) [.ref (ad 0), .int p1, .int p2].toArray s 0 0 (fun _ => False)) (F0 m 61 ls [.int t0_61]) := by
        intro x4_61 x5_61 x6_61 t0_61 ls hl r hF hp
        unfold N_X12_movesNow_61 at hF
        refine lv_istore_n (lv' := [(3, .int t0_61), (0, .ref (ad 0)), (1, .int x1_9), (2, .int x2_9), (4, .int x4_61), (5, .int x5_61), (6, .int x6_61)]) hx hb dX12_movesNow_61 rfl hl (by decide) rfl (fun ls hl => ?_)
        refine lv_iload hx hb dX12_movesNow_62 (lv_at hl 6 rfl) ?_
        refine lv_if_eq (tgt := 76) hx hb dX12_movesNow_64 (by decide) (fun hc9 => ?_) (fun hc9 => ?_)
        · have hF := it_p hc9 hF
          refine lv_iload hx hb dX12_movesNow_76 (lv_at hl 4 rfl) ?_
          exact hN_78 t0_61 x5_61 x4_61 ls (lv_sub hl [1, 2, 3, 0, 5] rfl) _ hF hp
        · have hF := it_n hc9 hF
          refine lv_aload_n hx hb dX12_movesNow_67 rfl (lv_at hl 1 rfl) ?_
          refine lv_iload hx hb dX12_movesNow_68 (lv_at hl 5 rfl) ?_
          obtain ⟨r10, he10, hF⟩ := bd_s hF
          refine kS_i (va_runV (As := [.int x5_61]) (rest := []) ⟨hx, hb, hml, hown, hts⟩ (c_X12_movesBy l hz D ad ck f0 g0 a0 x5_61 r10 he10) (cwV 1 hts gX12_movesNow_X12_movesBy rfl rfl rfl ⟨rfl, pX12_movesBy⟩ ⟨Nat.le_of_ble_eq_true rfl, Nat.le_of_ble_eq_true rfl⟩) (kR.preV (va_recv hK hP (ci := 12) (q0 := 0) rfl rfl) hP hE) rfl rfl hl.1 rfl (lv_room (Nat.le_of_ble_eq_true rfl)) dX12_movesNow_70 ⟨Nat.le_refl _, Nat.le_refl _⟩) ?_
          refine lv_goto (tgt := 78) hx hb dX12_movesNow_73 (by decide) ?_
          exact hN_78 t0_61 x5_61 r10 ls (lv_sub hl [1, 2, 3, 0, 5] rfl) _ hF hp
      have hN_48 : ∀ (x3_48 : Int32) (x4_48 : Int32) (x5_48 : Int32) (t0_48 : Int32) (ls : Array Slot), lv_has ls 7 [(0, .ref (ad 0)), (1, .int x1_9), (2, .int x2_9), (3, .int x3_48), (4, .int x4_48), (5, .int x5_48)] → ∀ r : ((Int32 × Int32 × Int32) ⊕ Int32), N_X12_movesNow_48 f0 g0 a0 x1_9 x2_9 x3_48 x4_48 x5_48 t0_48 = some r → (lpK (fun q9 : (Int32 × Int32 × Int32) => B_X12_movesNow_9 f0 g0 a0 x1_9 x2_9 q9.1 q9.2.1 q9.2.2) n9 (fun r => r = out)) r → W p l e (headSpec wsX12_movesNow ({ frames := 5, cells := 0, slots := 0, locals := 116 })).room s m [.ref (ad 0), .int p1, .int p2].toArray below meth c s.heap [] 0 0 (MQ below (kZi out) [.ref (ad 0), .int p1, .int p2].toArray s 0 0 (fun _ => False)) (F0 m 48 ls [.int t0_48]) := by
        intro x3_48 x4_48 x5_48 t0_48 ls hl r hF hp
        unfold N_X12_movesNow_48 at hF
        refine lv_istore (lv' := [(6, .int t0_48), (0, .ref (ad 0)), (1, .int x1_9), (2, .int x2_9), (3, .int x3_48), (4, .int x4_48), (5, .int x5_48)]) hx hb dX12_movesNow_48 hl (by decide) rfl (fun ls hl => ?_)
        refine lv_iload hx hb dX12_movesNow_50 (lv_at hl 0 rfl) ?_
        refine lv_if_eq (tgt := 60) hx hb dX12_movesNow_52 (by decide) (fun hc8 => ?_) (fun hc8 => ?_)
        · have hF := it_p hc8 hF
          refine lv_iload_n hx hb dX12_movesNow_60 rfl (lv_at hl 4 rfl) ?_
          exact hN_61 x4_48 x5_48 t0_48 x3_48 ls (lv_sub hl [1, 2, 3, 5, 6, 0] rfl) _ hF hp
        · have hF := it_n hc8 hF
          refine lv_iload hx hb dX12_movesNow_55 (lv_at hl 6 rfl) ?_
          refine lv_goto (tgt := 61) hx hb dX12_movesNow_57 (by decide) ?_
          exact hN_61 x4_48 x5_48 t0_48 x5_48 ls (lv_sub hl [1, 2, 3, 5, 6, 0] rfl) _ hF hp
      have hN_47 : ∀ (x3_47 : Int32) (x4_47 : Int32) (x5_47 : Int32) (ls : Array Slot), lv_has ls 7 [(0, .ref (ad 0)), (1, .int x1_9), (2, .int x2_9), (3, .int x3_47), (4, .int x4_47), (5, .int x5_47)] → ∀ r : ((Int32 × Int32 × Int32) ⊕ Int32), N_X12_movesNow_47 f0 g0 a0 x1_9 x2_9 x3_47 x4_47 x5_47 = some r → (lpK (fun q9 : (Int32 × Int32 × Int32) => B_X12_movesNow_9 f0 g0 a0 x1_9 x2_9 q9.1 q9.2.1 q9.2.2) n9 (fun r => r = out)) r → W p l e (headSpec wsX12_movesNow ({ frames := 5, cells := 0, slots := 0, locals := 116 })).room s m [.ref (ad 0), .int p1, .int p2].toArray below meth c s.heap [] 0 0 (MQ below (kZi out) [.ref (ad 0), .int p1, .int p2].toArray s 0 0 (fun _ => False)) (F0 m 47 ls []) := by
        intro x3_47 x4_47 x5_47 ls hl r hF hp
        unfold N_X12_movesNow_47 at hF
        refine lv_iconst (v := 0) hx hb dX12_movesNow_47 (by decide) ?_
        exact hN_48 x3_47 x4_47 x5_47 0 ls (lv_sub hl [0, 1, 2, 3, 4, 5] rfl) _ hF hp
      unfold B_X12_movesNow_9 at hF
      refine lv_iload hx hb dX12_movesNow_9 (lv_at hl 5 rfl) ?_
      refine lv_iconst (v := 1) hx hb dX12_movesNow_11 (by decide) ?_
      refine lv_iconst (v := 2) hx hb dX12_movesNow_12 (by decide) ?_
      refine lv_aload_n hx hb dX12_movesNow_13 rfl (lv_at hl 0 rfl) ?_
      refine va_get (D := D) (ci := 12) (v := .int (f0 1)) (C := RX12) (T := TX12) (N := 31) hx hb hts hiX12 hown hK hP 0 rfl rfl 1 (by decide) hf83 (fun _ h9 => h9) rfl dX12_movesNow_14 ?_
      refine lv_imul hx hb dX12_movesNow_17 ?_
      refine lv_ishl hx hb dX12_movesNow_18 ?_
      refine lv_icmp_ge (tgt := 86) hx hb dX12_movesNow_19 (by decide) (fun hc1 => ?_) (fun hc1 => ?_)
      · have hF := it_p hc1 hF
        obtain ⟨r, hF1, hr0⟩ := mp_s hF
        clear hF
        subst hr0
        have hF := hF1
        clear hF1
        have hp : (fun r => r = out) r := hp
        refine lv_iload_n hx hb dX12_movesNow_86 rfl (lv_at hl 3 rfl) ?_
        refine lv_iconst (v := (-1)) hx hb dX12_movesNow_87 (by decide) ?_
        refine lv_icmp_ne (tgt := 93) hx hb dX12_movesNow_88 (by decide) (fun hc2 => ?_) (fun hc2 => ?_)
        · have hF := it_n hc2 hF
          refine lv_iload_n hx hb dX12_movesNow_93 rfl (lv_at hl 2 rfl) ?_
          refine lv_if_ne (tgt := 102) hx hb dX12_movesNow_94 (by decide) (fun hc3 => ?_) (fun hc3 => ?_)
          · have hF := it_n hc3 hF
            refine lv_aload_n hx hb dX12_movesNow_102 rfl (lv_at hl 0 rfl) ?_
            refine lv_iload_n hx hb dX12_movesNow_103 rfl (lv_at hl 2 rfl) ?_
            refine lv_bipush (v := 10) hx hb dX12_movesNow_104 (by decide) ?_
            refine lv_isub hx hb dX12_movesNow_106 ?_
            refine kS_b (va_runV (As := [.int (x2_9 - (10 : Int32))]) (rest := []) ⟨hx, hb, hml, hown, hts⟩ (c_X12_isOne l hz D ad ck f0 g0 a0 (x2_9 - (10 : Int32))) (cwV 1 hts gX12_movesNow_X12_isOne rfl rfl rfl ⟨rfl, pX12_isOne⟩ ⟨Nat.le_of_ble_eq_true rfl, Nat.le_of_ble_eq_true rfl⟩) (kR.preV (va_recv hK hP (ci := 12) (q0 := 0) rfl rfl) hP hE) rfl rfl hl.1 rfl (lv_room (Nat.le_of_ble_eq_true rfl)) dX12_movesNow_107 ⟨Nat.le_refl _, Nat.le_refl _⟩) (fun hz4 => ?_)
            refine lv_if_eq (tgt := 125) hx hb dX12_movesNow_110 (by decide) (fun hc5 => ?_) (fun hc5 => ?_)
            · have hF := it_p hc5 hF
              refine lv_iconst (v := (-1)) hx hb dX12_movesNow_125 (by decide) ?_
              exact W.iret hx hb hr (fun t ht hW => ⟨_, rfl, (Option.some.inj hF).trans hp, ht⟩) (fun q hq => by cases hq) dX12_movesNow_126
            · have hF := it_n hc5 hF
              refine lv_aload_n hx hb dX12_movesNow_113 rfl (lv_at hl 0 rfl) ?_
              refine lv_iload_n hx hb dX12_movesNow_114 rfl (lv_at hl 3 rfl) ?_
              refine lv_iload_n hx hb dX12_movesNow_115 rfl (lv_at hl 2 rfl) ?_
              refine lv_bipush (v := 10) hx hb dX12_movesNow_116 (by decide) ?_
              refine lv_isub hx hb dX12_movesNow_118 ?_
              refine kS_i (va_runV (As := [.int x3_9, .int (x2_9 - (10 : Int32))]) (rest := []) ⟨hx, hb, hml, hown, hts⟩ (c_X12_roomBy l hz D ad ck f0 g0 a0 x3_9 (x2_9 - (10 : Int32))) (cwV 2 hts gX12_movesNow_X12_roomBy rfl rfl rfl ⟨rfl, pX12_roomBy⟩ ⟨Nat.le_of_ble_eq_true rfl, Nat.le_of_ble_eq_true rfl⟩) (kR.preV (va_recv hK hP (ci := 12) (q0 := 0) rfl rfl) hP hE) rfl rfl hl.1 rfl (lv_room (Nat.le_of_ble_eq_true rfl)) dX12_movesNow_119 ⟨Nat.le_refl _, Nat.le_refl _⟩) ?_
              refine lv_goto (tgt := 126) hx hb dX12_movesNow_122 (by decide) ?_
              exact W.iret hx hb hr (fun t ht hW => ⟨_, rfl, (Option.some.inj hF).trans hp, ht⟩) (fun q hq => by cases hq) dX12_movesNow_126
          · have hF := it_p hc3 hF
            refine lv_iload hx hb dX12_movesNow_97 (lv_at hl 4 rfl) ?_
            refine lv_goto (tgt := 126) hx hb dX12_movesNow_99 (by decide) ?_
            exact W.iret hx hb hr (fun t ht hW => ⟨_, rfl, (Option.some.inj hF).trans hp, ht⟩) (fun q hq => by cases hq) dX12_movesNow_126
        · have hF := it_p hc2 hF
          refine lv_iconst (v := (-1)) hx hb dX12_movesNow_91 (by decide) ?_
          exact W.iret hx hb hr (fun t ht hW => ⟨_, rfl, (Option.some.inj hF).trans hp, ht⟩) (fun q hq => by cases hq) dX12_movesNow_92
      · have hF := it_n hc1 hF
        refine lv_aload_n hx hb dX12_movesNow_22 rfl (lv_at hl 0 rfl) ?_
        refine lv_iload hx hb dX12_movesNow_23 (lv_at hl 5 rfl) ?_
        obtain ⟨r6, he6, hF⟩ := bd_s hF
        refine kS_i (va_runV (As := [.int x5_9]) (rest := []) ⟨hx, hb, hml, hown, hts⟩ (c_X12_movesBy l hz D ad ck f0 g0 a0 x5_9 r6 he6) (cwV 1 hts gX12_movesNow_X12_movesBy rfl rfl rfl ⟨rfl, pX12_movesBy⟩ ⟨Nat.le_of_ble_eq_true rfl, Nat.le_of_ble_eq_true rfl⟩) (kR.preV (va_recv hK hP (ci := 12) (q0 := 0) rfl rfl) hP hE) rfl rfl hl.1 rfl (lv_room (Nat.le_of_ble_eq_true rfl)) dX12_movesNow_25 ⟨Nat.le_refl _, Nat.le_refl _⟩) ?_
        refine lv_iload hx hb dX12_movesNow_28 (lv_at hl 4 rfl) ?_
        refine lv_icmp_ge (tgt := 47) hx hb dX12_movesNow_30 (by decide) (fun hc7 => ?_) (fun hc7 => ?_)
        · have hF := it_p hc7 hF
          exact hN_47 x3_9 x4_9 x5_9 ls (lv_sub hl [0, 1, 2, 3, 4, 5] rfl) _ hF hp
        · have hF := it_n hc7 hF
          refine lv_aload_n hx hb dX12_movesNow_33 rfl (lv_at hl 0 rfl) ?_
          refine lv_iload_n hx hb dX12_movesNow_34 rfl (lv_at hl 1 rfl) ?_
          refine lv_iload hx hb dX12_movesNow_35 (lv_at hl 5 rfl) ?_
          obtain ⟨r11, he11, hF⟩ := bd_s hF
          refine kS_b (va_runV (As := [.int x1_9, .int x5_9]) (rest := []) ⟨hx, hb, hml, hown, hts⟩ (c_X12_isWrittenIf l hz D ad ck f0 g0 a0 x1_9 x5_9 r11 he11) (cwV 2 hts gX12_movesNow_X12_isWrittenIf rfl rfl rfl ⟨rfl, pX12_isWrittenIf⟩ ⟨Nat.le_of_ble_eq_true rfl, Nat.le_of_ble_eq_true rfl⟩) (kR.preV (va_recv hK hP (ci := 12) (q0 := 0) rfl rfl) hP hE) rfl rfl hl.1 rfl (lv_room (Nat.le_of_ble_eq_true rfl)) dX12_movesNow_37 ⟨Nat.le_refl _, Nat.le_refl _⟩) (fun hz12 => ?_)
          refine lv_if_eq (tgt := 47) hx hb dX12_movesNow_40 (by decide) (fun hc13 => ?_) (fun hc13 => ?_)
          · have hF := it_p hc13 hF
            exact hN_47 x3_9 x4_9 x5_9 ls (lv_sub hl [0, 1, 2, 3, 4, 5] rfl) _ hF hp
          · have hF := it_n hc13 hF
            refine lv_iconst (v := 1) hx hb dX12_movesNow_43 (by decide) ?_
            refine lv_goto (tgt := 48) hx hb dX12_movesNow_44 (by decide) ?_
            exact hN_48 x3_9 x4_9 x5_9 1 ls (lv_sub hl [0, 1, 2, 3, 4, 5] rfl) _ hF hp
  have hl := lv_entry ([.ref (ad 0), .int p1, .int p2]) (n := 7) (Nat.le_of_ble_eq_true rfl)
  rw [lg_entry_eq]
  generalize (lg_sl ([.ref (ad 0), .int p1, .int p2]) ++ List.replicate (7 - (lg_sl ([.ref (ad 0), .int p1, .int p2])).length) Slot.unset).toArray = ls at hl ⊢
  have hl : lv_has ls 7 [(0, .ref (ad 0)), (1, .int p1), (2, .int p2)] := hl
  obtain ⟨r, hF, hp⟩ : ∃ r, F_X12_movesNow f0 g0 a0 p1 p2 = some r ∧ r = out := ⟨out, hF, rfl⟩
  unfold F_X12_movesNow at hF
  refine lv_iconst (v := (-1)) hx hb dX12_movesNow_0 (by decide) ?_
  refine lv_istore_n (lv' := [(3, .int (-1)), (0, .ref (ad 0)), (1, .int p1), (2, .int p2)]) hx hb dX12_movesNow_1 rfl hl (by decide) rfl (fun ls hl => ?_)
  refine lv_ldc (v := 268435456) hx hb hown (hts (.constant RX12 141 (268435456)) (by decide +kernel)) dX12_movesNow_2 ?_
  refine lv_istore (lv' := [(4, .int 268435456), (3, .int (-1)), (0, .ref (ad 0)), (1, .int p1), (2, .int p2)]) hx hb dX12_movesNow_4 hl (by decide) rfl (fun ls hl => ?_)
  refine lv_iconst (v := 0) hx hb dX12_movesNow_6 (by decide) ?_
  refine lv_istore (lv' := [(5, .int 0), (4, .int 268435456), (3, .int (-1)), (0, .ref (ad 0)), (1, .int p1), (2, .int p2)]) hx hb dX12_movesNow_7 hl (by decide) rfl (fun ls hl => ?_)
  exact hN_9 p1 p2 kFu (-1) 268435456 0 ls (lv_sub hl [3, 4, 5, 2, 1, 0] rfl) _ hF hp

def N_X12_moves_29 (f29 : Nat → Int32) (g29 : Nat → Int64) (a29 : Nat → Nat → Int32) (x1_29 : Int32) (x2_29 : Int32) : Option (Int32 × ST) := if (f29 12) = 40 then some ((-103), f29, g29, a29) else (F_X12_movesNow (upd f29 12 ((f29 12) + (1 : Int32))) g29 a29 x1_29 x2_29).bind fun r5 => some (r5, (upd f29 12 ((f29 12) + (1 : Int32))), g29, a29)
def F_X12_moves (f0 : Nat → Int32) (g0 : Nat → Int64) (a0 : Nat → Nat → Int32) (p1 : Int32) (p2 : Int32) : Option (Int32 × ST) := if (F_X12_isOne f0 g0 a0 p1) = 0 then some ((-101), f0, g0, a0) else if p2 = 0 then N_X12_moves_29 f0 g0 a0 p1 p2 else if (F_X12_within p2 10 14) = 0 then some ((-102), f0, g0, a0) else N_X12_moves_29 f0 g0 a0 p1 p2
set_option maxHeartbeats 4000000 in
set_option maxRecDepth 100000 in
theorem c_X12_moves (l : Launch) (hz : Nat) (D : va_G) (ad : Nat → Nat) (ck : Nat → ClassId) (f0 : Nat → Int32) (g0 : Nat → Int64) (a0 : Nat → Nat → Int32) (p1 : Int32) (p2 : Int32) (out : (Int32 × ST)) (hF : F_X12_moves f0 g0 a0 p1 p2 = some out) : Met l yX12_moves wsX12_moves ({ frames := 6, cells := 0, slots := 0, locals := 142 }) (kW hz D vwCl (tM ck) (wM ad ck f0 g0 a0) [.ref (ad 0), .int p1, .int p2]) (kQ D vwCl (some (.int out.1)) (wM ad ck f0 g0 a0) (wM ad ck out.2.1 out.2.2.1 out.2.2.2)) 0 0 (kAd (wM ad ck f0 g0 a0)) := by
  refine Met.ofW (cc := cX12_moves) (maxL := 3) (ret := (some .int)) (by decide) rfl ?_
  intro p e s m args below meth c s₁ B hml hv
  obtain ⟨rfl, hP, hE, hD0⟩ := hv
  have hx := B.exec
  have hb := B.bytes
  have hr := B.returns
  have hts := atoms_spec (ws := wsX12_moves) B.pre
  have hown : s.vm.findClass RX12 = some m.cls := findClass_of_methodNamed B.named
  have hlocks := B.notSynchronized
  have hK := hE.1
  have hnA := kAd_up hD0
  have hD := kD_self hD0
  have hS : va_S (kAd (wM ad ck f0 g0 a0)) s.heap s.heap [] := va_S.rf
  have hiX12 : ∀ w ∈ u_ws RX12 TX12 31, w ∈ wsX12_moves := by decide +kernel
  have hf148 := hts (.fieldLink RX12 148 "SpeltByFriendsModel" "moveAsks" "I") (by decide +kernel)
  have hN_29 : ∀ (f29 : Nat → Int32) (g29 : Nat → Int64) (a29 : Nat → Nat → Int32) (H : Heap) (locs : List Loc) (x1_29 : Int32) (x2_29 : Int32) (ls : Array Slot), va_P D vwCl (wM ad ck f29 g29 a29) H → va_D (kAd (wM ad ck f0 g0 a0)) (wM ad ck f29 g29 a29) → va_S (kAd (wM ad ck f0 g0 a0)) s.heap H locs → lv_has ls 3 [(0, .ref (ad 0)), (1, .int x1_29), (2, .int x2_29)] → ∀ r : (Int32 × ST), N_X12_moves_29 f29 g29 a29 x1_29 x2_29 = some r → (fun r => r = out) r → W p l e (headSpec wsX12_moves ({ frames := 6, cells := 0, slots := 0, locals := 142 })).room s m [.ref (ad 0), .int p1, .int p2].toArray below meth c H locs 0 0 (MQ below (kQ D vwCl (some (.int out.1)) (wM ad ck f0 g0 a0) (wM ad ck out.2.1 out.2.2.1 out.2.2.2)) [.ref (ad 0), .int p1, .int p2].toArray s 0 0 (kAd (wM ad ck f0 g0 a0))) (F0 m 29 ls []) := by
    intro f29 g29 a29 H locs x1_29 x2_29 ls hP hD hS hl r hF hp
    unfold N_X12_moves_29 at hF
    refine lv_aload_n hx hb dX12_moves_29 rfl (lv_at hl 0 rfl) ?_
    refine va_get (D := D) (ci := 12) (v := .int (f29 12)) (C := RX12) (T := TX12) (N := 31) hx hb hts hiX12 hown hK hP 0 rfl rfl 12 (by decide) hf148 (fun _ h9 => h9) rfl dX12_moves_30 ?_
    refine lv_bipush (v := 40) hx hb dX12_moves_33 (by decide) ?_
    refine lv_icmp_ne (tgt := 41) hx hb dX12_moves_35 (by decide) (fun hc4 => ?_) (fun hc4 => ?_)
    · have hF := it_n hc4 hF
      refine lv_aload_n hx hb dX12_moves_41 rfl (lv_at hl 0 rfl) ?_
      refine lv_dup hx hb dX12_moves_42 rfl ?_
      refine va_get (D := D) (ci := 12) (v := .int (f29 12)) (C := RX12) (T := TX12) (N := 31) hx hb hts hiX12 hown hK hP 0 rfl rfl 12 (by decide) hf148 (fun _ h9 => h9) rfl dX12_moves_43 ?_
      refine lv_iconst (v := 1) hx hb dX12_moves_46 (by decide) ?_
      refine lv_iadd hx hb dX12_moves_47 ?_
      refine va_put (D := D) (ci := 12) (v := .int ((f29 12) + (1 : Int32))) (ty := .int) (C := RX12) (T := TX12) (N := 31) hx hb hts hiX12 tyX12 tyX12_ok nmX12 hown hK hP hD hS 0 rfl rfl 12 (by decide) hf148 (fun _ h9 => h9) rfl (tyX12_ok 12 (by decide)) rfl rfl (Nat.le_of_ble_eq_true rfl) dX12_moves_48 (fun H locs hP hD hS => ?_)
      have hP := kPe (ef_wM0_12 ad ck f29 g29 a29 ((f29 12) + (1 : Int32))) hP
      have hD := kDe (ef_wM0_12 ad ck f29 g29 a29 ((f29 12) + (1 : Int32))) hD
      refine lv_aload_n hx hb dX12_moves_51 rfl (lv_at hl 0 rfl) ?_
      refine lv_iload_n hx hb dX12_moves_52 rfl (lv_at hl 1 rfl) ?_
      refine lv_iload_n hx hb dX12_moves_53 rfl (lv_at hl 2 rfl) ?_
      obtain ⟨r5, he5, hF⟩ := bd_s hF
      refine kS_i (va_runV (As := [.int x1_29, .int x2_29]) (rest := []) ⟨hx, hb, hml, hown, hts⟩ (c_X12_movesNow l hz D ad ck (upd f29 12 ((f29 12) + (1 : Int32))) g29 a29 x1_29 x2_29 r5 he5) (cwV 2 hts gX12_moves_X12_movesNow rfl rfl rfl ⟨rfl, pX12_movesNow⟩ ⟨Nat.le_of_ble_eq_true rfl, Nat.le_of_ble_eq_true rfl⟩) (kR.preV (va_recv hK hP (ci := 12) (q0 := 0) rfl rfl) hP (hE.kept hS hnA)) rfl rfl hl.1 rfl (lv_room (Nat.le_of_ble_eq_true rfl)) dX12_moves_54 ⟨Nat.le_refl _, Nat.le_refl _⟩) ?_
      have hF := (Option.some.inj hF).trans hp
      subst hF
      exact W.iret hx hb hr (fun t ht hW => ⟨rfl, by rw [ht]; exact hP, hS.F ht⟩) hS.2.2 dX12_moves_57
    · have hF := it_p hc4 hF
      refine lv_bipush (v := (-103)) hx hb dX12_moves_38 (by decide) ?_
      have hF := (Option.some.inj hF).trans hp
      subst hF
      exact W.iret hx hb hr (fun t ht hW => ⟨rfl, by rw [ht]; exact hP, hS.F ht⟩) hS.2.2 dX12_moves_40
  have hl := lv_entry ([.ref (ad 0), .int p1, .int p2]) (n := 3) (Nat.le_of_ble_eq_true rfl)
  rw [lg_entry_eq]
  generalize (lg_sl ([.ref (ad 0), .int p1, .int p2]) ++ List.replicate (3 - (lg_sl ([.ref (ad 0), .int p1, .int p2])).length) Slot.unset).toArray = ls at hl ⊢
  have hl : lv_has ls 3 [(0, .ref (ad 0)), (1, .int p1), (2, .int p2)] := hl
  obtain ⟨r, hF, hp⟩ : ∃ r, F_X12_moves f0 g0 a0 p1 p2 = some r ∧ r = out := ⟨out, hF, rfl⟩
  unfold F_X12_moves at hF
  refine lv_aload_n hx hb dX12_moves_0 rfl (lv_at hl 0 rfl) ?_
  refine lv_iload_n hx hb dX12_moves_1 rfl (lv_at hl 1 rfl) ?_
  refine kS_b (va_runV (As := [.int p1]) (rest := []) ⟨hx, hb, hml, hown, hts⟩ (c_X12_isOne l hz D ad ck f0 g0 a0 p1) (cwV 1 hts gX12_moves_X12_isOne rfl rfl rfl ⟨rfl, pX12_isOne⟩ ⟨Nat.le_of_ble_eq_true rfl, Nat.le_of_ble_eq_true rfl⟩) (kR.preV (va_recv hK hP (ci := 12) (q0 := 0) rfl rfl) hP (hE.kept hS hnA)) rfl rfl hl.1 rfl (lv_room (Nat.le_of_ble_eq_true rfl)) dX12_moves_2 ⟨Nat.le_refl _, Nat.le_refl _⟩) (fun hz1 => ?_)
  refine lv_if_ne (tgt := 11) hx hb dX12_moves_5 (by decide) (fun hc2 => ?_) (fun hc2 => ?_)
  · have hF := it_n hc2 hF
    refine lv_iload_n hx hb dX12_moves_11 rfl (lv_at hl 2 rfl) ?_
    refine lv_if_eq (tgt := 29) hx hb dX12_moves_12 (by decide) (fun hc3 => ?_) (fun hc3 => ?_)
    · have hF := it_p hc3 hF
      exact hN_29 f0 g0 a0 _ _ p1 p2 ls hP hD hS (lv_sub hl [0, 1, 2] rfl) _ hF hp
    · have hF := it_n hc3 hF
      refine lv_iload_n hx hb dX12_moves_15 rfl (lv_at hl 2 rfl) ?_
      refine lv_bipush (v := 10) hx hb dX12_moves_16 (by decide) ?_
      refine lv_bipush (v := 14) hx hb dX12_moves_18 (by decide) ?_
      refine kS_b (va_runS (As := [.int p2, .int 10, .int 14]) (rest := []) ⟨hx, hb, hml, hown, hts⟩ (c_X12_within l hz D (tM ck) p2 10 14) (va_cwS 3 hts gX12_moves_X12_within rfl rfl rfl pX12_within ⟨Nat.le_of_ble_eq_true rfl, Nat.le_of_ble_eq_true rfl⟩) (kR.preS kP_nil (hE.kept hS hnA)) rfl rfl hl.1 rfl (lv_room (Nat.le_of_ble_eq_true rfl)) dX12_moves_20 ⟨Nat.le_refl _, Nat.le_refl _⟩) (fun hz6 => ?_)
      refine lv_if_ne (tgt := 29) hx hb dX12_moves_23 (by decide) (fun hc7 => ?_) (fun hc7 => ?_)
      · have hF := it_n hc7 hF
        exact hN_29 f0 g0 a0 _ _ p1 p2 ls hP hD hS (lv_sub hl [0, 1, 2] rfl) _ hF hp
      · have hF := it_p hc7 hF
        refine lv_bipush (v := (-102)) hx hb dX12_moves_26 (by decide) ?_
        have hF := (Option.some.inj hF).trans hp
        subst hF
        exact W.iret hx hb hr (fun t ht hW => ⟨rfl, by rw [ht]; exact hP, hS.F ht⟩) hS.2.2 dX12_moves_28
  · have hF := it_p hc2 hF
    refine lv_bipush (v := (-101)) hx hb dX12_moves_8 (by decide) ?_
    have hF := (Option.some.inj hF).trans hp
    subst hF
    exact W.iret hx hb hr (fun t ht hW => ⟨rfl, by rw [ht]; exact hP, hS.F ht⟩) hS.2.2 dX12_moves_10
