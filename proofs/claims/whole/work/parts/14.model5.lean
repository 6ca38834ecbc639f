/-! ===== the reference, by program (tools/gen.py) ===== -/
def N_X12_writtenAll_26 (f0 : Nat → Int32) (g0 : Nat → Int64) (a0 : Nat → Nat → Int32) (x2_26 : Int32) (t0_26 : Int32) (t1_26 : Int32) : Option ((Int32 × Int32) ⊕ Int32) := some (.inl ((t1_26 + t0_26), (x2_26 + 1)))
def B_X12_writtenAll_4 (f0 : Nat → Int32) (g0 : Nat → Int64) (a0 : Nat → Nat → Int32) (x1_4 : Int32) (x2_4 : Int32) : Option ((Int32 × Int32) ⊕ Int32) := if (f0 1) ≤ x2_4 then Option.map Sum.inr (some x1_4) else (F_X12_isWrittenNow f0 g0 a0 x2_4).bind fun r2 => if r2 = 0 then N_X12_writtenAll_26 f0 g0 a0 x2_4 0 x1_4 else N_X12_writtenAll_26 f0 g0 a0 x2_4 1 x1_4
def N_X12_writtenAll_4 (f0 : Nat → Int32) (g0 : Nat → Int64) (a0 : Nat → Nat → Int32) (x1_4 : Int32) (x2_4 : Int32) : Option Int32 := lpN (fun q4 : (Int32 × Int32) => B_X12_writtenAll_4 f0 g0 a0 q4.1 q4.2) kFu (x1_4, x2_4)
def F_X12_writtenAll (f0 : Nat → Int32) (g0 : Nat → Int64) (a0 : Nat → Nat → Int32) : Option Int32 := N_X12_writtenAll_4 f0 g0 a0 0 0
set_option maxHeartbeats 4000000 in
set_option maxRecDepth 100000 in
theorem c_X12_writtenAll (l : Launch) (hz : Nat) (D : va_G) (ad : Nat → Nat) (ck : Nat → ClassId) (f0 : Nat → Int32) (g0 : Nat → Int64) (a0 : Nat → Nat → Int32) (out : Int32) (hF : F_X12_writtenAll f0 g0 a0 = some out) : Met l yX12_writtenAll wsX12_writtenAll ({ frames := 5, cells := 0, slots := 0, locals := 113 }) (kR hz D vwCl (tM ck) (wM ad ck f0 g0 a0) [.ref (ad 0)]) (kZi out) 0 0 (fun _ => False) := by
  refine Met.ofW (cc := cX12_writtenAll) (maxL := 3) (ret := (some .int)) (by decide) rfl ?_
  intro p e s m args below meth c s₁ B hml hv
  obtain ⟨rfl, hP, hE⟩ := hv
  have hx := B.exec
  have hb := B.bytes
  have hr := B.returns
  have hts := atoms_spec (ws := wsX12_writtenAll) B.pre
  have hown : s.vm.findClass RX12 = some m.cls := findClass_of_methodNamed B.named
  have hlocks := B.notSynchronized
  have hK := hE.1
  have hiX12 : ∀ w ∈ u_ws RX12 TX12 31, w ∈ wsX12_writtenAll := by decide +kernel
  have hf83 := hts (.fieldLink RX12 83 "SpeltByFriendsModel" "people" "I") (by decide +kernel)
  have hN_4 : ∀ (n4 : Nat) (x1_4 : Int32) (x2_4 : Int32) (ls : Array Slot), lv_has ls 3 [(0, .ref (ad 0)), (1, .int x1_4), (2, .int x2_4)] → ∀ r : Int32, lpN (fun q4 : (Int32 × Int32) => B_X12_writtenAll_4 f0 g0 a0 q4.1 q4.2) n4 (x1_4, x2_4) = some r → (fun r => r = out) r → W p l e (headSpec wsX12_writtenAll ({ frames := 5, cells := 0, slots := 0, locals := 113 })).room s m [.ref (ad 0)].toArray below meth c s.heap [] 0 0 (MQ below (kZi out) [.ref (ad 0)].toArray s 0 0 (fun _ => False)) (F0 m 4 ls []) := by
    intro n4
    induction n4 with
    | zero => intro x1_4 x2_4 ls hl r hF hp; exact (lp_z hF).elim
    | succ n4 ih4 =>
      intro x1_4 x2_4 ls hl r hF hp
      obtain ⟨rs, hF, hp⟩ := lpN_K (P := (fun r => r = out)) hF hp
      have hN_26 : ∀ (x2_26 : Int32) (t0_26 : Int32) (t1_26 : Int32) (ls : Array Slot), lv_has ls 3 [(0, .ref (ad 0)), (2, .int x2_26)] → ∀ r : ((Int32 × Int32) ⊕ Int32), N_X12_writtenAll_26 f0 g0 a0 x2_26 t0_26 t1_26 = some r → (lpK (fun q4 : (Int32 × Int32) => B_X12_writtenAll_4 f0 g0 a0 q4.1 q4.2) n4 (fun r => r = out)) r → W p l e (headSpec wsX12_writtenAll ({ frames := 5, cells := 0, slots := 0, locals := 113 })).room s m [.ref (ad 0)].toArray below meth c s.heap [] 0 0 (MQ below (kZi out) [.ref (ad 0)].toArray s 0 0 (fun _ => False)) (F0 m 26 ls [.int t0_26, .int t1_26]) := by
        intro x2_26 t0_26 t1_26 ls hl r hF hp
        unfold N_X12_writtenAll_26 at hF
        refine lv_iadd hx hb dX12_writtenAll_26 ?_
        refine lv_istore_n (lv' := [(1, .int (t1_26 + t0_26)), (0, .ref (ad 0)), (2, .int x2_26)]) hx hb dX12_writtenAll_27 rfl hl (by decide) rfl (fun ls hl => ?_)
        refine lv_iinc (v := (x2_26 + 1)) (lv' := [(2, .int (x2_26 + 1)), (1, .int (t1_26 + t0_26)), (0, .ref (ad 0))]) hx hb dX12_writtenAll_28 hl (k := 2) rfl rfl (by decide) rfl (fun ls hl => ?_)
        refine lv_goto (tgt := 4) hx hb dX12_writtenAll_31 (by decide) ?_
        have hF := Option.some.inj hF
        subst hF
        obtain ⟨r, hF, hp⟩ := hp
        exact ih4 (t1_26 + t0_26) (x2_26 + 1) ls (lv_sub hl [2, 1, 0] rfl) r hF hp
      unfold B_X12_writtenAll_4 at hF
      refine lv_iload_n hx hb dX12_writtenAll_4 rfl (lv_at hl 2 rfl) ?_
      refine lv_aload_n hx hb dX12_writtenAll_5 rfl (lv_at hl 0 rfl) ?_
      refine va_get (D := D) (ci := 12) (v := .int (f0 1)) (C := RX12) (T := TX12) (N := 31) hx hb hts hiX12 hown hK hP 0 rfl rfl 1 (by decide) hf83 (fun _ h9 => h9) rfl dX12_writtenAll_6 ?_
      refine lv_icmp_ge (tgt := 34) hx hb dX12_writtenAll_9 (by decide) (fun hc1 => ?_) (fun hc1 => ?_)
      · have hF := it_p hc1 hF
        obtain ⟨r, hF1, hr0⟩ := mp_s hF
        clear hF
        subst hr0
        have hF := hF1
        clear hF1
        have hp : (fun r => r = out) r := hp
        refine lv_iload_n hx hb dX12_writtenAll_34 rfl (lv_at hl 1 rfl) ?_
        exact W.iret hx hb hr (fun t ht hW => ⟨_, rfl, (Option.some.inj hF).trans hp, ht⟩) (fun q hq => by cases hq) dX12_writtenAll_35
      · have hF := it_n hc1 hF
        refine lv_iload_n hx hb dX12_writtenAll_12 rfl (lv_at hl 1 rfl) ?_
        refine lv_aload_n hx hb dX12_writtenAll_13 rfl (lv_at hl 0 rfl) ?_
        refine lv_iload_n hx hb dX12_writtenAll_14 rfl (lv_at hl 2 rfl) ?_
        obtain ⟨r2, he2, hF⟩ := bd_s hF
        refine kS_b (va_runV (As := [.int x2_4]) (rest := [.int x1_4]) ⟨hx, hb, hml, hown, hts⟩ (c_X12_isWrittenNow l hz D ad ck f0 g0 a0 x2_4 r2 he2) (cwV 1 hts gX12_writtenAll_X12_isWrittenNow rfl rfl rfl ⟨rfl, pX12_isWrittenNow⟩ ⟨Nat.le_of_ble_eq_true rfl, Nat.le_of_ble_eq_true rfl⟩) (kR.preV (va_recv hK hP (ci := 12) (q0 := 0) rfl rfl) hP hE) rfl rfl hl.1 rfl (lv_room (Nat.le_of_ble_eq_true rfl)) dX12_writtenAll_15 ⟨Nat.le_refl _, Nat.le_refl _⟩) (fun hz3 => ?_)
        refine lv_if_eq (tgt := 25) hx hb dX12_writtenAll_18 (by decide) (fun hc4 => ?_) (fun hc4 => ?_)
        · have hF := it_p hc4 hF
          refine lv_iconst (v := 0) hx hb dX12_writtenAll_25 (by decide) ?_
          exact hN_26 x2_4 0 x1_4 ls (lv_sub hl [0, 2] rfl) _ hF hp
        · have hF := it_n hc4 hF
          refine lv_iconst (v := 1) hx hb dX12_writtenAll_21 (by decide) ?_
          refine lv_goto (tgt := 26) hx hb dX12_writtenAll_22 (by decide) ?_
          exact hN_26 x2_4 1 x1_4 ls (lv_sub hl [0, 2] rfl) _ hF hp
  have hl := lv_entry ([.ref (ad 0)]) (n := 3) (Nat.le_of_ble_eq_true rfl)
  rw [lg_entry_eq]
  generalize (lg_sl ([.ref (ad 0)]) ++ List.replicate (3 - (lg_sl ([.ref (ad 0)])).length) Slot.unset).toArray = ls at hl ⊢
  have hl : lv_has ls 3 [(0, .ref (ad 0))] := hl
  obtain ⟨r, hF, hp⟩ : ∃ r, F_X12_writtenAll f0 g0 a0 = some r ∧ r = out := ⟨out, hF, rfl⟩
  unfold F_X12_writtenAll at hF
  refine lv_iconst (v := 0) hx hb dX12_writtenAll_0 (by decide) ?_
  refine lv_istore_n (lv' := [(1, .int 0), (0, .ref (ad 0))]) hx hb dX12_writtenAll_1 rfl hl (by decide) rfl (fun ls hl => ?_)
  refine lv_iconst (v := 0) hx hb dX12_writtenAll_2 (by decide) ?_
  refine lv_istore_n (lv' := [(2, .int 0), (1, .int 0), (0, .ref (ad 0))]) hx hb dX12_writtenAll_3 rfl hl (by decide) rfl (fun ls hl => ?_)
  exact hN_4 kFu 0 0 ls (lv_sub hl [2, 1, 0] rfl) _ hF hp

def F_X12_draw (f0 : Nat → Int32) (g0 : Nat → Int64) (a0 : Nat → Nat → Int32) (p1 : Int32) : Option (Int32 × ST) := gd (nzL (p1.toInt64)) (some ((((((vp_updL g0 17 ((((1103515245 : Int64) * (g0 17)) + (12345 : Int64)) &&& (2147483647 : Int64))) 17) / 65536) - (((vp_updL g0 17 ((((1103515245 : Int64) * (g0 17)) + (12345 : Int64)) &&& (2147483647 : Int64))) 17) / 65536) / (p1.toInt64) * (p1.toInt64)).toInt32), f0, (vp_updL g0 17 ((((1103515245 : Int64) * (g0 17)) + (12345 : Int64)) &&& (2147483647 : Int64))), a0))
set_option maxHeartbeats 4000000 in
set_option maxRecDepth 100000 in
theorem c_X12_draw (l : Launch) (hz : Nat) (D : va_G) (ad : Nat → Nat) (ck : Nat → ClassId) (f0 : Nat → Int32) (g0 : Nat → Int64) (a0 : Nat → Nat → Int32) (p1 : Int32) (out : (Int32 × ST)) (hF : F_X12_draw f0 g0 a0 p1 = some out) : Met l yX12_draw wsX12_draw ({ frames := 0, cells := 0, slots := 0, locals := 0 }) (kW hz D vwCl (tM ck) (wM ad ck f0 g0 a0) [.ref (ad 0), .int p1]) (kQ D vwCl (some (.int out.1)) (wM ad ck f0 g0 a0) (wM ad ck out.2.1 out.2.2.1 out.2.2.2)) 0 0 (kAd (wM ad ck f0 g0 a0)) := by
  refine Met.ofW (cc := cX12_draw) (maxL := 2) (ret := (some .int)) (by decide) rfl ?_
  intro p e s m args below meth c s₁ B hml hv
  obtain ⟨rfl, hP, hE, hD0⟩ := hv
  have hx := B.exec
  have hb := B.bytes
  have hr := B.returns
  have hts := atoms_spec (ws := wsX12_draw) B.pre
  have hown : s.vm.findClass RX12 = some m.cls := findClass_of_methodNamed B.named
  have hlocks := B.notSynchronized
  have hK := hE.1
  have hnA := kAd_up hD0
  have hD := kD_self hD0
  have hS : va_S (kAd (wM ad ck f0 g0 a0)) s.heap s.heap [] := va_S.rf
  have hiX12 : ∀ w ∈ u_ws RX12 TX12 31, w ∈ wsX12_draw := by decide +kernel
  have hf180 := hts (.fieldLink RX12 180 "SpeltByFriendsModel" "seedNow" "J") (by decide +kernel)
  have hl := lv_entry ([.ref (ad 0), .int p1]) (n := 2) (Nat.le_of_ble_eq_true rfl)
  rw [lg_entry_eq]
  generalize (lg_sl ([.ref (ad 0), .int p1]) ++ List.replicate (2 - (lg_sl ([.ref (ad 0), .int p1])).length) Slot.unset).toArray = ls at hl ⊢
  have hl : lv_has ls 2 [(0, .ref (ad 0)), (1, .int p1)] := hl
  obtain ⟨r, hF, hp⟩ : ∃ r, F_X12_draw f0 g0 a0 p1 = some r ∧ r = out := ⟨out, hF, rfl⟩
  unfold F_X12_draw at hF
  refine lv_aload_n hx hb dX12_draw_0 rfl (lv_at hl 0 rfl) ?_
  refine lv_ldc2 (v := 1103515245) hx hb hown (hts (.constantLong RX12 178 (1103515245)) (by decide +kernel)) dX12_draw_1 ?_
  refine lv_aload_n hx hb dX12_draw_4 rfl (lv_at hl 0 rfl) ?_
  refine va_get (D := D) (ci := 12) (v := .long (g0 17)) (C := RX12) (T := TX12) (N := 31) hx hb hts hiX12 hown hK hP 0 rfl rfl 17 (by decide) hf180 (fun _ h9 => h9) rfl dX12_draw_5 ?_
  refine lv_lmul hx hb dX12_draw_8 ?_
  refine lv_ldc2 (v := 12345) hx hb hown (hts (.constantLong RX12 184 (12345)) (by decide +kernel)) dX12_draw_9 ?_
  refine lv_ladd hx hb dX12_draw_12 ?_
  refine lv_ldc2 (v := 2147483647) hx hb hown (hts (.constantLong RX12 186 (2147483647)) (by decide +kernel)) dX12_draw_13 ?_
  refine lv_land hx hb dX12_draw_16 ?_
  refine va_put (D := D) (ci := 12) (v := .long ((((1103515245 : Int64) * (g0 17)) + (12345 : Int64)) &&& (2147483647 : Int64))) (ty := .long) (C := RX12) (T := TX12) (N := 31) hx hb hts hiX12 tyX12 tyX12_ok nmX12 hown hK hP hD hS 0 rfl rfl 17 (by decide) hf180 (fun _ h9 => h9) rfl (tyX12_ok 17 (by decide)) rfl rfl (Nat.le_of_ble_eq_true rfl) dX12_draw_17 (fun H locs hP hD hS => ?_)
  have hP := kPe (ef_wM0_17 ad ck f0 g0 a0 ((((1103515245 : Int64) * (g0 17)) + (12345 : Int64)) &&& (2147483647 : Int64))) hP
  have hD := kDe (ef_wM0_17 ad ck f0 g0 a0 ((((1103515245 : Int64) * (g0 17)) + (12345 : Int64)) &&& (2147483647 : Int64))) hD
  refine lv_aload_n hx hb dX12_draw_20 rfl (lv_at hl 0 rfl) ?_
  refine va_get (D := D) (ci := 12) (v := .long ((vp_updL g0 17 ((((1103515245 : Int64) * (g0 17)) + (12345 : Int64)) &&& (2147483647 : Int64))) 17)) (C := RX12) (T := TX12) (N := 31) hx hb hts hiX12 hown hK hP 0 rfl rfl 17 (by decide) hf180 (fun _ h9 => h9) rfl dX12_draw_21 ?_
  refine lv_ldc2 (v := 65536) hx hb hown (hts (.constantLong RX12 188 (65536)) (by decide +kernel)) dX12_draw_24 ?_
  refine lv_ldiv hx hb dX12_draw_27 (by decide) ?_
  refine lv_iload_n hx hb dX12_draw_28 rfl (lv_at hl 1 rfl) ?_
  refine lv_i2l (v := p1.toInt64) hx hb dX12_draw_29 rfl ?_
  obtain ⟨hg1, hF⟩ := gd_s hF
  refine lv_lrem hx hb dX12_draw_30 (nzL_n hg1) ?_
  refine lv_l2i (v := ((((vp_updL g0 17 ((((1103515245 : Int64) * (g0 17)) + (12345 : Int64)) &&& (2147483647 : Int64))) 17) / 65536) - (((vp_updL g0 17 ((((1103515245 : Int64) * (g0 17)) + (12345 : Int64)) &&& (2147483647 : Int64))) 17) / 65536) / (p1.toInt64) * (p1.toInt64)).toInt32) hx hb dX12_draw_31 rfl ?_
  have hF := (Option.some.inj hF).trans hp
  subst hF
  exact W.iret hx hb hr (fun t ht hW => ⟨rfl, by rw [ht]; exact hP, hS.F ht⟩) hS.2.2 dX12_draw_32

def B_X12_yearsNow_96 (f96 : Nat → Int32) (g96 : Nat → Int64) (a96 : Nat → Nat → Int32) (x3_96 : Int32) (x4_96 : Int32) (x5_96 : Int32) (x6_96 : Int32) : Option ((Int32 × ST) ⊕ (Int32 × ST)) := if (f96 1) ≤ x6_96 then Option.map Sum.inr (if x3_96 = 0 then some (x4_96, f96, g96, a96) else if x3_96 = 1 then some (x5_96, f96, g96, a96) else some (((g96 17).toInt32), f96, g96, a96)) else gd (inB x6_96 5) (gd (inB x6_96 5) (some (.inl ((x6_96 + 1), f96, g96, (ua a96 4 x6_96.toNatClampNeg (a96 18 x6_96.toNatClampNeg))))))
def N_X12_yearsNow_96 (f96 : Nat → Int32) (g96 : Nat → Int64) (a96 : Nat → Nat → Int32) (x3_96 : Int32) (x4_96 : Int32) (x5_96 : Int32) (x6_96 : Int32) : Option (Int32 × ST) := lpN (fun q96 : (Int32 × ST) => B_X12_yearsNow_96 q96.2.1 q96.2.2.1 q96.2.2.2 x3_96 x4_96 x5_96 q96.1) kFu (x6_96, f96, g96, a96)
def B_X12_yearsNow_44 (f44 : Nat → Int32) (g44 : Nat → Int64) (a44 : Nat → Nat → Int32) (x1_44 : Int32) (x3_44 : Int32) (x4_44 : Int32) (x5_44 : Int32) : Option ((Int32 × Int32 × ST) ⊕ (Int32 × ST)) := if x1_44 ≤ x5_44 then Option.map Sum.inr ((F_X12_writtenAll f44 g44 a44).bind fun r3 => N_X12_yearsNow_96 f44 g44 a44 x3_44 x4_44 r3 0) else (F_X12_draw f44 g44 a44 (f44 1)).bind fun r9 => (F_X12_draw r9.2.1 r9.2.2.1 r9.2.2.2 4).bind fun r10 => gd (inB r9.1 5) ((F_X12_writtenAll r10.2.1 r10.2.2.1 (ua r10.2.2.2 4 r9.1.toNatClampNeg r10.1)).bind fun r12 => some (.inl ((x4_44 + r12), (x5_44 + 1), r10.2.1, r10.2.2.1, (ua r10.2.2.2 4 r9.1.toNatClampNeg r10.1))))
def N_X12_yearsNow_44 (f44 : Nat → Int32) (g44 : Nat → Int64) (a44 : Nat → Nat → Int32) (x1_44 : Int32) (x3_44 : Int32) (x4_44 : Int32) (x5_44 : Int32) : Option (Int32 × ST) := lpN (fun q44 : (Int32 × Int32 × ST) => B_X12_yearsNow_44 q44.2.2.1 q44.2.2.2.1 q44.2.2.2.2 x1_44 x3_44 q44.1 q44.2.1) kFu (x4_44, x5_44, f44, g44, a44)
def B_X12_yearsNow_3 (f3 : Nat → Int32) (g3 : Nat → Int64) (a3 : Nat → Nat → Int32) (x1_3 : Int32) (x2_3 : Int32) (x3_3 : Int32) (x4_3 : Int32) : Option ((Int32 × ST) ⊕ (Int32 × ST)) := if (f3 1) ≤ x4_3 then Option.map Sum.inr (N_X12_yearsNow_44 f3 (vp_updL g3 17 (x2_3.toInt64)) a3 x1_3 x3_3 0 0) else gd (inB x4_3 5) (gd (inB x4_3 5) (some (.inl ((x4_3 + 1), f3, g3, (ua a3 18 x4_3.toNatClampNeg (a3 4 x4_3.toNatClampNeg))))))
def N_X12_yearsNow_3 (f3 : Nat → Int32) (g3 : Nat → Int64) (a3 : Nat → Nat → Int32) (x1_3 : Int32) (x2_3 : Int32) (x3_3 : Int32) (x4_3 : Int32) : Option (Int32 × ST) := lpN (fun q3 : (Int32 × ST) => B_X12_yearsNow_3 q3.2.1 q3.2.2.1 q3.2.2.2 x1_3 x2_3 x3_3 q3.1) kFu (x4_3, f3, g3, a3)
def F_X12_yearsNow (f0 : Nat → Int32) (g0 : Nat → Int64) (a0 : Nat → Nat → Int32) (p1 : Int32) (p2 : Int32) (p3 : Int32) : Option (Int32 × ST) := N_X12_yearsNow_3 f0 g0 a0 p1 p2 p3 0
set_option maxHeartbeats 4000000 in
set_option maxRecDepth 100000 in
theorem c_X12_yearsNow (l : Launch) (hz : Nat) (D : va_G) (ad : Nat → Nat) (ck : Nat → ClassId) (f0 : Nat → Int32) (g0 : Nat → Int64) (a0 : Nat → Nat → Int32) (p1 : Int32) (p2 : Int32) (p3 : Int32) (out : (Int32 × ST)) (hF : F_X12_yearsNow f0 g0 a0 p1 p2 p3 = some out) : Met l yX12_yearsNow wsX12_yearsNow ({ frames := 6, cells := 0, slots := 0, locals := 135 }) (kW hz D vwCl (tM ck) (wM ad ck f0 g0 a0) [.ref (ad 0), .int p1, .int p2, .int p3]) (kQ D vwCl (some (.int out.1)) (wM ad ck f0 g0 a0) (wM ad ck out.2.1 out.2.2.1 out.2.2.2)) 0 0 (kAd (wM ad ck f0 g0 a0)) := by
  refine Met.ofW (cc := cX12_yearsNow) (maxL := 7) (ret := (some .int)) (by decide) rfl ?_
  intro p e s m args below meth c s₁ B hml hv
  obtain ⟨rfl, hP, hE, hD0⟩ := hv
  have hx := B.exec
  have hb := B.bytes
  have hr := B.returns
  have hts := atoms_spec (ws := wsX12_yearsNow) B.pre
  have hown : s.vm.findClass RX12 = some m.cls := findClass_of_methodNamed B.named
  have hlocks := B.notSynchronized
  have hK := hE.1
  have hnA := kAd_up hD0
  have hD := kD_self hD0
  have hS : va_S (kAd (wM ad ck f0 g0 a0)) s.heap s.heap [] := va_S.rf
  have hiX12 : ∀ w ∈ u_ws RX12 TX12 31, w ∈ wsX12_yearsNow := by decide +kernel
  have hf16 := hts (.fieldLink RX12 16 "SpeltByFriendsModel" "roomOf" "[I") (by decide +kernel)
  have hf38 := hts (.fieldLink RX12 38 "SpeltByFriendsModel" "saved" "[I") (by decide +kernel)
  have hf83 := hts (.fieldLink RX12 83 "SpeltByFriendsModel" "people" "I") (by decide +kernel)
  have hf180 := hts (.fieldLink RX12 180 "SpeltByFriendsModel" "seedNow" "J") (by decide +kernel)
  have hN_96 : ∀ (x3_96 : Int32) (x4_96 : Int32) (x5_96 : Int32) (n96 : Nat) (f96 : Nat → Int32) (g96 : Nat → Int64) (a96 : Nat → Nat → Int32) (H : Heap) (locs : List Loc) (x6_96 : Int32) (ls : Array Slot), va_P D vwCl (wM ad ck f96 g96 a96) H → va_D (kAd (wM ad ck f0 g0 a0)) (wM ad ck f96 g96 a96) → va_S (kAd (wM ad ck f0 g0 a0)) s.heap H locs → lv_has ls 7 [(0, .ref (ad 0)), (3, .int x3_96), (4, .int x4_96), (5, .int x5_96), (6, .int x6_96)] → ∀ r : (Int32 × ST), lpN (fun q96 : (Int32 × ST) => B_X12_yearsNow_96 q96.2.1 q96.2.2.1 q96.2.2.2 x3_96 x4_96 x5_96 q96.1) n96 (x6_96, f96, g96, a96) = some r → (fun r => r = out) r → W p l e (headSpec wsX12_yearsNow ({ frames := 6, cells := 0, slots := 0, locals := 135 })).room s m [.ref (ad 0), .int p1, .int p2, .int p3].toArray below meth c H locs 0 0 (MQ below (kQ D vwCl (some (.int out.1)) (wM ad ck f0 g0 a0) (wM ad ck out.2.1 out.2.2.1 out.2.2.2)) [.ref (ad 0), .int p1, .int p2, .int p3].toArray s 0 0 (kAd (wM ad ck f0 g0 a0))) (F0 m 96 ls []) := by
    intro x3_96 x4_96 x5_96 n96
    induction n96 with
    | zero => intro f96 g96 a96 H locs x6_96 ls hP hD hS hl r hF hp; exact (lp_z hF).elim
    | succ n96 ih96 =>
      intro f96 g96 a96 H locs x6_96 ls hP hD hS hl r hF hp
      obtain ⟨rs, hF, hp⟩ := lpN_K (P := (fun r => r = out)) hF hp
      unfold B_X12_yearsNow_96 at hF
      refine lv_iload hx hb dX12_yearsNow_96 (lv_at hl 4 rfl) ?_
      refine lv_aload_n hx hb dX12_yearsNow_98 rfl (lv_at hl 0 rfl) ?_
      refine va_get (D := D) (ci := 12) (v := .int (f96 1)) (C := RX12) (T := TX12) (N := 31) hx hb hts hiX12 hown hK hP 0 rfl rfl 1 (by decide) hf83 (fun _ h9 => h9) rfl dX12_yearsNow_99 ?_
      refine lv_icmp_ge (tgt := 125) hx hb dX12_yearsNow_102 (by decide) (fun hc4 => ?_) (fun hc4 => ?_)
      · have hF := it_p hc4 hF
        obtain ⟨r, hF1, hr0⟩ := mp_s hF
        clear hF
        subst hr0
        have hF := hF1
        clear hF1
        have hp : (fun r => r = out) r := hp
        refine lv_iload_n hx hb dX12_yearsNow_125 rfl (lv_at hl 1 rfl) ?_
        refine lv_if_ne (tgt := 134) hx hb dX12_yearsNow_126 (by decide) (fun hc5 => ?_) (fun hc5 => ?_)
        · have hF := it_n hc5 hF
          refine lv_iload_n hx hb dX12_yearsNow_134 rfl (lv_at hl 1 rfl) ?_
          refine lv_iconst (v := 1) hx hb dX12_yearsNow_135 (by decide) ?_
          refine lv_icmp_ne (tgt := 144) hx hb dX12_yearsNow_136 (by decide) (fun hc6 => ?_) (fun hc6 => ?_)
          · have hF := it_n hc6 hF
            refine lv_aload_n hx hb dX12_yearsNow_144 rfl (lv_at hl 0 rfl) ?_
            refine va_get (D := D) (ci := 12) (v := .long (g96 17)) (C := RX12) (T := TX12) (N := 31) hx hb hts hiX12 hown hK hP 0 rfl rfl 17 (by decide) hf180 (fun _ h9 => h9) rfl dX12_yearsNow_145 ?_
            refine lv_l2i (v := (g96 17).toInt32) hx hb dX12_yearsNow_148 rfl ?_
            have hF := (Option.some.inj hF).trans hp
            subst hF
            exact W.iret hx hb hr (fun t ht hW => ⟨rfl, by rw [ht]; exact hP, hS.F ht⟩) hS.2.2 dX12_yearsNow_149
          · have hF := it_p hc6 hF
            refine lv_iload hx hb dX12_yearsNow_139 (lv_at hl 3 rfl) ?_
            refine lv_goto (tgt := 149) hx hb dX12_yearsNow_141 (by decide) ?_
            have hF := (Option.some.inj hF).trans hp
            subst hF
            exact W.iret hx hb hr (fun t ht hW => ⟨rfl, by rw [ht]; exact hP, hS.F ht⟩) hS.2.2 dX12_yearsNow_149
        · have hF := it_p hc5 hF
          refine lv_iload hx hb dX12_yearsNow_129 (lv_at hl 2 rfl) ?_
          refine lv_goto (tgt := 149) hx hb dX12_yearsNow_131 (by decide) ?_
          have hF := (Option.some.inj hF).trans hp
          subst hF
          exact W.iret hx hb hr (fun t ht hW => ⟨rfl, by rw [ht]; exact hP, hS.F ht⟩) hS.2.2 dX12_yearsNow_149
      · have hF := it_n hc4 hF
        refine lv_aload_n hx hb dX12_yearsNow_105 rfl (lv_at hl 0 rfl) ?_
        refine va_get (D := D) (ci := 12) (v := .ref (ad 4)) (C := RX12) (T := TX12) (N := 31) hx hb hts hiX12 hown hK hP 0 rfl rfl 4 (by decide) hf16 (fun _ h9 => h9) rfl dX12_yearsNow_106 ?_
        refine lv_iload hx hb dX12_yearsNow_109 (lv_at hl 4 rfl) ?_
        refine lv_aload_n hx hb dX12_yearsNow_111 rfl (lv_at hl 0 rfl) ?_
        refine va_get (D := D) (ci := 12) (v := .ref (ad 18)) (C := RX12) (T := TX12) (N := 31) hx hb hts hiX12 hown hK hP 0 rfl rfl 18 (by decide) hf38 (fun _ h9 => h9) rfl dX12_yearsNow_112 ?_
        refine lv_iload hx hb dX12_yearsNow_115 (lv_at hl 4 rfl) ?_
        obtain ⟨hg7, hF⟩ := gd_s hF
        refine va_iald hx hb hK hP 10 9 rfl rfl (inB_in hg7) dX12_yearsNow_117 ?_
        obtain ⟨hg8, hF⟩ := gd_s hF
        refine va_iast hx hb hK hP hD hS 3 2 rfl rfl (inB_in hg8) dX12_yearsNow_118 (fun H locs hP hD hS => ?_)
        have hP := kPe (eu_wM4 ad ck f96 g96 a96 x6_96.toNatClampNeg (a96 18 x6_96.toNatClampNeg)) hP
        have hD := kDe (eu_wM4 ad ck f96 g96 a96 x6_96.toNatClampNeg (a96 18 x6_96.toNatClampNeg)) hD
        refine lv_iinc (v := (x6_96 + 1)) (lv' := [(6, .int (x6_96 + 1)), (0, .ref (ad 0)), (3, .int x3_96), (4, .int x4_96), (5, .int x5_96)]) hx hb dX12_yearsNow_119 hl (k := 4) rfl rfl (by decide) rfl (fun ls hl => ?_)
        refine lv_goto (tgt := 96) hx hb dX12_yearsNow_122 (by decide) ?_
        have hF := Option.some.inj hF
        subst hF
        obtain ⟨r, hF, hp⟩ := hp
        exact ih96 f96 g96 (ua a96 4 x6_96.toNatClampNeg (a96 18 x6_96.toNatClampNeg)) _ _ (x6_96 + 1) ls hP hD hS (lv_sub hl [1, 2, 3, 4, 0] rfl) r hF hp
  have hN_44 : ∀ (x1_44 : Int32) (x3_44 : Int32) (n44 : Nat) (f44 : Nat → Int32) (g44 : Nat → Int64) (a44 : Nat → Nat → Int32) (H : Heap) (locs : List Loc) (x4_44 : Int32) (x5_44 : Int32) (ls : Array Slot), va_P D vwCl (wM ad ck f44 g44 a44) H → va_D (kAd (wM ad ck f0 g0 a0)) (wM ad ck f44 g44 a44) → va_S (kAd (wM ad ck f0 g0 a0)) s.heap H locs → lv_has ls 7 [(0, .ref (ad 0)), (1, .int x1_44), (3, .int x3_44), (4, .int x4_44), (5, .int x5_44)] → ∀ r : (Int32 × ST), lpN (fun q44 : (Int32 × Int32 × ST) => B_X12_yearsNow_44 q44.2.2.1 q44.2.2.2.1 q44.2.2.2.2 x1_44 x3_44 q44.1 q44.2.1) n44 (x4_44, x5_44, f44, g44, a44) = some r → (fun r => r = out) r → W p l e (headSpec wsX12_yearsNow ({ frames := 6, cells := 0, slots := 0, locals := 135 })).room s m [.ref (ad 0), .int p1, .int p2, .int p3].toArray below meth c H locs 0 0 (MQ below (kQ D vwCl (some (.int out.1)) (wM ad ck f0 g0 a0) (wM ad ck out.2.1 out.2.2.1 out.2.2.2)) [.ref (ad 0), .int p1, .int p2, .int p3].toArray s 0 0 (kAd (wM ad ck f0 g0 a0))) (F0 m 44 ls []) := by
    intro x1_44 x3_44 n44
    induction n44 with
    | zero => intro f44 g44 a44 H locs x4_44 x5_44 ls hP hD hS hl r hF hp; exact (lp_z hF).elim
    | succ n44 ih44 =>
      intro f44 g44 a44 H locs x4_44 x5_44 ls hP hD hS hl r hF hp
      obtain ⟨rs, hF, hp⟩ := lpN_K (P := (fun r => r = out)) hF hp
      unfold B_X12_yearsNow_44 at hF
      refine lv_iload hx hb dX12_yearsNow_44 (lv_at hl 4 rfl) ?_
      refine lv_iload_n hx hb dX12_yearsNow_46 rfl (lv_at hl 1 rfl) ?_
      refine lv_icmp_ge (tgt := 87) hx hb dX12_yearsNow_47 (by decide) (fun hc2 => ?_) (fun hc2 => ?_)
      · have hF := it_p hc2 hF
        obtain ⟨r, hF1, hr0⟩ := mp_s hF
        clear hF
        subst hr0
        have hF := hF1
        clear hF1
        have hp : (fun r => r = out) r := hp
        refine lv_aload_n hx hb dX12_yearsNow_87 rfl (lv_at hl 0 rfl) ?_
        obtain ⟨r3, he3, hF⟩ := bd_s hF
        refine kS_i (va_runV (As := []) (rest := []) ⟨hx, hb, hml, hown, hts⟩ (c_X12_writtenAll l hz D ad ck f44 g44 a44 r3 he3) (cwV 0 hts gX12_yearsNow_X12_writtenAll rfl rfl rfl ⟨rfl, pX12_writtenAll⟩ ⟨Nat.le_of_ble_eq_true rfl, Nat.le_of_ble_eq_true rfl⟩) (kR.preV (va_recv hK hP (ci := 12) (q0 := 0) rfl rfl) hP (hE.kept hS hnA)) rfl rfl hl.1 rfl (lv_room (Nat.le_of_ble_eq_true rfl)) dX12_yearsNow_88 ⟨Nat.le_refl _, Nat.le_refl _⟩) ?_
        refine lv_istore (lv' := [(5, .int r3), (0, .ref (ad 0)), (1, .int x1_44), (3, .int x3_44), (4, .int x4_44)]) hx hb dX12_yearsNow_91 hl (by decide) rfl (fun ls hl => ?_)
        refine lv_iconst (v := 0) hx hb dX12_yearsNow_93 (by decide) ?_
        refine lv_istore (lv' := [(6, .int 0), (5, .int r3), (0, .ref (ad 0)), (1, .int x1_44), (3, .int x3_44), (4, .int x4_44)]) hx hb dX12_yearsNow_94 hl (by decide) rfl (fun ls hl => ?_)
        exact hN_96 x3_44 x4_44 r3 kFu f44 g44 a44 _ _ 0 ls hP hD hS (lv_sub hl [2, 4, 5, 1, 0] rfl) _ hF hp
      · have hF := it_n hc2 hF
        refine lv_aload_n hx hb dX12_yearsNow_50 rfl (lv_at hl 0 rfl) ?_
        refine lv_aload_n hx hb dX12_yearsNow_51 rfl (lv_at hl 0 rfl) ?_
        refine va_get (D := D) (ci := 12) (v := .int (f44 1)) (C := RX12) (T := TX12) (N := 31) hx hb hts hiX12 hown hK hP 0 rfl rfl 1 (by decide) hf83 (fun _ h9 => h9) rfl dX12_yearsNow_52 ?_
        obtain ⟨r9, he9, hF⟩ := bd_s hF
        refine kS_w (va_runV (As := [.int (f44 1)]) (rest := []) ⟨hx, hb, hml, hown, hts⟩ (c_X12_draw l hz D ad ck f44 g44 a44 (f44 1) r9 he9) (cwV 1 hts gX12_yearsNow_X12_draw rfl rfl rfl ⟨rfl, pX12_draw⟩ ⟨Nat.le_of_ble_eq_true rfl, Nat.le_of_ble_eq_true rfl⟩) (kW.preV (va_recv hK hP (ci := 12) (q0 := 0) rfl rfl) hP (hE.kept hS hnA) hD hnA) rfl rfl hl.1 rfl (lv_room (Nat.le_of_ble_eq_true rfl)) dX12_yearsNow_55 ⟨Nat.le_refl _, Nat.le_refl _⟩) hD hS rfl (fun H locs hP hD hS => ?_)
        refine lv_istore (lv' := [(6, .int r9.1), (0, .ref (ad 0)), (1, .int x1_44), (3, .int x3_44), (4, .int x4_44), (5, .int x5_44)]) hx hb dX12_yearsNow_58 hl (by decide) rfl (fun ls hl => ?_)
        refine lv_aload_n hx hb dX12_yearsNow_60 rfl (lv_at hl 1 rfl) ?_
        refine va_get (D := D) (ci := 12) (v := .ref (ad 4)) (C := RX12) (T := TX12) (N := 31) hx hb hts hiX12 hown hK hP 0 rfl rfl 4 (by decide) hf16 (fun _ h9 => h9) rfl dX12_yearsNow_61 ?_
        refine lv_iload hx hb dX12_yearsNow_64 (lv_at hl 0 rfl) ?_
        refine lv_aload_n hx hb dX12_yearsNow_66 rfl (lv_at hl 1 rfl) ?_
        refine lv_iconst (v := 4) hx hb dX12_yearsNow_67 (by decide) ?_
        obtain ⟨r10, he10, hF⟩ := bd_s hF
        refine kS_w (va_runV (As := [.int 4]) (rest := [.int r9.1, .ref (ad 4)]) ⟨hx, hb, hml, hown, hts⟩ (c_X12_draw l hz D ad ck r9.2.1 r9.2.2.1 r9.2.2.2 4 r10 he10) (cwV 1 hts gX12_yearsNow_X12_draw rfl rfl rfl ⟨rfl, pX12_draw⟩ ⟨Nat.le_of_ble_eq_true rfl, Nat.le_of_ble_eq_true rfl⟩) (kW.preV (va_recv hK hP (ci := 12) (q0 := 0) rfl rfl) hP (hE.kept hS hnA) hD hnA) rfl rfl hl.1 rfl (lv_room (Nat.le_of_ble_eq_true rfl)) dX12_yearsNow_68 ⟨Nat.le_refl _, Nat.le_refl _⟩) hD hS rfl (fun H locs hP hD hS => ?_)
        obtain ⟨hg11, hF⟩ := gd_s hF
        refine va_iast hx hb hK hP hD hS 3 2 rfl rfl (inB_in hg11) dX12_yearsNow_71 (fun H locs hP hD hS => ?_)
        have hP := kPe (eu_wM4 ad ck r10.2.1 r10.2.2.1 r10.2.2.2 r9.1.toNatClampNeg r10.1) hP
        have hD := kDe (eu_wM4 ad ck r10.2.1 r10.2.2.1 r10.2.2.2 r9.1.toNatClampNeg r10.1) hD
        refine lv_iload hx hb dX12_yearsNow_72 (lv_at hl 4 rfl) ?_
        refine lv_aload_n hx hb dX12_yearsNow_74 rfl (lv_at hl 1 rfl) ?_
        obtain ⟨r12, he12, hF⟩ := bd_s hF
        refine kS_i (va_runV (As := []) (rest := [.int x4_44]) ⟨hx, hb, hml, hown, hts⟩ (c_X12_writtenAll l hz D ad ck r10.2.1 r10.2.2.1 (ua r10.2.2.2 4 r9.1.toNatClampNeg r10.1) r12 he12) (cwV 0 hts gX12_yearsNow_X12_writtenAll rfl rfl rfl ⟨rfl, pX12_writtenAll⟩ ⟨Nat.le_of_ble_eq_true rfl, Nat.le_of_ble_eq_true rfl⟩) (kR.preV (va_recv hK hP (ci := 12) (q0 := 0) rfl rfl) hP (hE.kept hS hnA)) rfl rfl hl.1 rfl (lv_room (Nat.le_of_ble_eq_true rfl)) dX12_yearsNow_75 ⟨Nat.le_refl _, Nat.le_refl _⟩) ?_
        refine lv_iadd hx hb dX12_yearsNow_78 ?_
        refine lv_istore (lv' := [(4, .int (x4_44 + r12)), (6, .int r9.1), (0, .ref (ad 0)), (1, .int x1_44), (3, .int x3_44), (5, .int x5_44)]) hx hb dX12_yearsNow_79 hl (by decide) rfl (fun ls hl => ?_)
        refine lv_iinc (v := (x5_44 + 1)) (lv' := [(5, .int (x5_44 + 1)), (4, .int (x4_44 + r12)), (6, .int r9.1), (0, .ref (ad 0)), (1, .int x1_44), (3, .int x3_44)]) hx hb dX12_yearsNow_81 hl (k := 5) rfl rfl (by decide) rfl (fun ls hl => ?_)
        refine lv_goto (tgt := 44) hx hb dX12_yearsNow_84 (by decide) ?_
        have hF := Option.some.inj hF
        subst hF
        obtain ⟨r, hF, hp⟩ := hp
        exact ih44 r10.2.1 r10.2.2.1 (ua r10.2.2.2 4 r9.1.toNatClampNeg r10.1) _ _ (x4_44 + r12) (x5_44 + 1) ls hP hD hS (lv_sub hl [3, 4, 5, 1, 0] rfl) r hF hp
  have hN_3 : ∀ (x1_3 : Int32) (x2_3 : Int32) (x3_3 : Int32) (n3 : Nat) (f3 : Nat → Int32) (g3 : Nat → Int64) (a3 : Nat → Nat → Int32) (H : Heap) (locs : List Loc) (x4_3 : Int32) (ls : Array Slot), va_P D vwCl (wM ad ck f3 g3 a3) H → va_D (kAd (wM ad ck f0 g0 a0)) (wM ad ck f3 g3 a3) → va_S (kAd (wM ad ck f0 g0 a0)) s.heap H locs → lv_has ls 7 [(0, .ref (ad 0)), (1, .int x1_3), (2, .int x2_3), (3, .int x3_3), (4, .int x4_3)] → ∀ r : (Int32 × ST), lpN (fun q3 : (Int32 × ST) => B_X12_yearsNow_3 q3.2.1 q3.2.2.1 q3.2.2.2 x1_3 x2_3 x3_3 q3.1) n3 (x4_3, f3, g3, a3) = some r → (fun r => r = out) r → W p l e (headSpec wsX12_yearsNow ({ frames := 6, cells := 0, slots := 0, locals := 135 })).room s m [.ref (ad 0), .int p1, .int p2, .int p3].toArray below meth c H locs 0 0 (MQ below (kQ D vwCl (some (.int out.1)) (wM ad ck f0 g0 a0) (wM ad ck out.2.1 out.2.2.1 out.2.2.2)) [.ref (ad 0), .int p1, .int p2, .int p3].toArray s 0 0 (kAd (wM ad ck f0 g0 a0))) (F0 m 3 ls []) := by
    intro x1_3 x2_3 x3_3 n3
    induction n3 with
    | zero => intro f3 g3 a3 H locs x4_3 ls hP hD hS hl r hF hp; exact (lp_z hF).elim
    | succ n3 ih3 =>
      intro f3 g3 a3 H locs x4_3 ls hP hD hS hl r hF hp
      obtain ⟨rs, hF, hp⟩ := lpN_K (P := (fun r => r = out)) hF hp
      unfold B_X12_yearsNow_3 at hF
      refine lv_iload hx hb dX12_yearsNow_3 (lv_at hl 4 rfl) ?_
      refine lv_aload_n hx hb dX12_yearsNow_5 rfl (lv_at hl 0 rfl) ?_
      refine va_get (D := D) (ci := 12) (v := .int (f3 1)) (C := RX12) (T := TX12) (N := 31) hx hb hts hiX12 hown hK hP 0 rfl rfl 1 (by decide) hf83 (fun _ h9 => h9) rfl dX12_yearsNow_6 ?_
      refine lv_icmp_ge (tgt := 32) hx hb dX12_yearsNow_9 (by decide) (fun hc1 => ?_) (fun hc1 => ?_)
      · have hF := it_p hc1 hF
        obtain ⟨r, hF1, hr0⟩ := mp_s hF
        clear hF
        subst hr0
        have hF := hF1
        clear hF1
        have hp : (fun r => r = out) r := hp
        refine lv_aload_n hx hb dX12_yearsNow_32 rfl (lv_at hl 0 rfl) ?_
        refine lv_iload_n hx hb dX12_yearsNow_33 rfl (lv_at hl 2 rfl) ?_
        refine lv_i2l (v := x2_3.toInt64) hx hb dX12_yearsNow_34 rfl ?_
        refine va_put (D := D) (ci := 12) (v := .long (x2_3.toInt64)) (ty := .long) (C := RX12) (T := TX12) (N := 31) hx hb hts hiX12 tyX12 tyX12_ok nmX12 hown hK hP hD hS 0 rfl rfl 17 (by decide) hf180 (fun _ h9 => h9) rfl (tyX12_ok 17 (by decide)) rfl rfl (Nat.le_of_ble_eq_true rfl) dX12_yearsNow_35 (fun H locs hP hD hS => ?_)
        have hP := kPe (ef_wM0_17 ad ck f3 g3 a3 (x2_3.toInt64)) hP
        have hD := kDe (ef_wM0_17 ad ck f3 g3 a3 (x2_3.toInt64)) hD
        refine lv_iconst (v := 0) hx hb dX12_yearsNow_38 (by decide) ?_
        refine lv_istore (lv' := [(4, .int 0), (0, .ref (ad 0)), (1, .int x1_3), (2, .int x2_3), (3, .int x3_3)]) hx hb dX12_yearsNow_39 hl (by decide) rfl (fun ls hl => ?_)
        refine lv_iconst (v := 0) hx hb dX12_yearsNow_41 (by decide) ?_
        refine lv_istore (lv' := [(5, .int 0), (4, .int 0), (0, .ref (ad 0)), (1, .int x1_3), (2, .int x2_3), (3, .int x3_3)]) hx hb dX12_yearsNow_42 hl (by decide) rfl (fun ls hl => ?_)
        exact hN_44 x1_3 x3_3 kFu f3 (vp_updL g3 17 (x2_3.toInt64)) a3 _ _ 0 0 ls hP hD hS (lv_sub hl [2, 3, 5, 1, 0] rfl) _ hF hp
      · have hF := it_n hc1 hF
        refine lv_aload_n hx hb dX12_yearsNow_12 rfl (lv_at hl 0 rfl) ?_
        refine va_get (D := D) (ci := 12) (v := .ref (ad 18)) (C := RX12) (T := TX12) (N := 31) hx hb hts hiX12 hown hK hP 0 rfl rfl 18 (by decide) hf38 (fun _ h9 => h9) rfl dX12_yearsNow_13 ?_
        refine lv_iload hx hb dX12_yearsNow_16 (lv_at hl 4 rfl) ?_
        refine lv_aload_n hx hb dX12_yearsNow_18 rfl (lv_at hl 0 rfl) ?_
        refine va_get (D := D) (ci := 12) (v := .ref (ad 4)) (C := RX12) (T := TX12) (N := 31) hx hb hts hiX12 hown hK hP 0 rfl rfl 4 (by decide) hf16 (fun _ h9 => h9) rfl dX12_yearsNow_19 ?_
        refine lv_iload hx hb dX12_yearsNow_22 (lv_at hl 4 rfl) ?_
        obtain ⟨hg13, hF⟩ := gd_s hF
        refine va_iald hx hb hK hP 3 2 rfl rfl (inB_in hg13) dX12_yearsNow_24 ?_
        obtain ⟨hg14, hF⟩ := gd_s hF
        refine va_iast hx hb hK hP hD hS 10 9 rfl rfl (inB_in hg14) dX12_yearsNow_25 (fun H locs hP hD hS => ?_)
        have hP := kPe (eu_wM18 ad ck f3 g3 a3 x4_3.toNatClampNeg (a3 4 x4_3.toNatClampNeg)) hP
        have hD := kDe (eu_wM18 ad ck f3 g3 a3 x4_3.toNatClampNeg (a3 4 x4_3.toNatClampNeg)) hD
        refine lv_iinc (v := (x4_3 + 1)) (lv' := [(4, .int (x4_3 + 1)), (0, .ref (ad 0)), (1, .int x1_3), (2, .int x2_3), (3, .int x3_3)]) hx hb dX12_yearsNow_26 hl (k := 4) rfl rfl (by decide) rfl (fun ls hl => ?_)
        refine lv_goto (tgt := 3) hx hb dX12_yearsNow_29 (by decide) ?_
        have hF := Option.some.inj hF
        subst hF
        obtain ⟨r, hF, hp⟩ := hp
        exact ih3 f3 g3 (ua a3 18 x4_3.toNatClampNeg (a3 4 x4_3.toNatClampNeg)) _ _ (x4_3 + 1) ls hP hD hS (lv_sub hl [1, 2, 3, 4, 0] rfl) r hF hp
  have hl := lv_entry ([.ref (ad 0), .int p1, .int p2, .int p3]) (n := 7) (Nat.le_of_ble_eq_true rfl)
  rw [lg_entry_eq]
  generalize (lg_sl ([.ref (ad 0), .int p1, .int p2, .int p3]) ++ List.replicate (7 - (lg_sl ([.ref (ad 0), .int p1, .int p2, .int p3])).length) Slot.unset).toArray = ls at hl ⊢
  have hl : lv_has ls 7 [(0, .ref (ad 0)), (1, .int p1), (2, .int p2), (3, .int p3)] := hl
  obtain ⟨r, hF, hp⟩ : ∃ r, F_X12_yearsNow f0 g0 a0 p1 p2 p3 = some r ∧ r = out := ⟨out, hF, rfl⟩
  unfold F_X12_yearsNow at hF
  refine lv_iconst (v := 0) hx hb dX12_yearsNow_0 (by decide) ?_
  refine lv_istore (lv' := [(4, .int 0), (0, .ref (ad 0)), (1, .int p1), (2, .int p2), (3, .int p3)]) hx hb dX12_yearsNow_1 hl (by decide) rfl (fun ls hl => ?_)
  exact hN_3 p1 p2 p3 kFu f0 g0 a0 _ _ 0 ls hP hD hS (lv_sub hl [1, 2, 3, 4, 0] rfl) _ hF hp

def F_X12_years (f0 : Nat → Int32) (g0 : Nat → Int64) (a0 : Nat → Nat → Int32) (p1 : Int32) (p2 : Int32) (p3 : Int32) : Option (Int32 × ST) := if (F_X12_within p1 1 60) = 0 then some ((-102), f0, g0, a0) else if p2 < 0 then some ((-102), f0, g0, a0) else if (F_X12_within p3 0 2) = 0 then some ((-102), f0, g0, a0) else if (f0 1) = 0 then some ((-103), f0, g0, a0) else (F_X12_yearsNow f0 g0 a0 p1 p2 p3).bind fun r7 => some (r7.1, r7.2.1, r7.2.2.1, r7.2.2.2)
set_option maxHeartbeats 4000000 in
set_option maxRecDepth 100000 in
theorem c_X12_years (l : Launch) (hz : Nat) (D : va_G) (ad : Nat → Nat) (ck : Nat → ClassId) (f0 : Nat → Int32) (g0 : Nat → Int64) (a0 : Nat → Nat → Int32) (p1 : Int32) (p2 : Int32) (p3 : Int32) (out : (Int32 × ST)) (hF : F_X12_years f0 g0 a0 p1 p2 p3 = some out) : Met l yX12_years wsX12_years ({ frames := 7, cells := 0, slots := 0, locals := 161 }) (kW hz D vwCl (tM ck) (wM ad ck f0 g0 a0) [.ref (ad 0), .int p1, .int p2, .int p3]) (kQ D vwCl (some (.int out.1)) (wM ad ck f0 g0 a0) (wM ad ck out.2.1 out.2.2.1 out.2.2.2)) 0 0 (kAd (wM ad ck f0 g0 a0)) := by
  refine Met.ofW (cc := cX12_years) (maxL := 4) (ret := (some .int)) (by decide) rfl ?_
  intro p e s m args below meth c s₁ B hml hv
  obtain ⟨rfl, hP, hE, hD0⟩ := hv
  have hx := B.exec
  have hb := B.bytes
  have hr := B.returns
  have hts := atoms_spec (ws := wsX12_years) B.pre
  have hown : s.vm.findClass RX12 = some m.cls := findClass_of_methodNamed B.named
  have hlocks := B.notSynchronized
  have hK := hE.1
  have hnA := kAd_up hD0
  have hD := kD_self hD0
  have hS : va_S (kAd (wM ad ck f0 g0 a0)) s.heap s.heap [] := va_S.rf
  have hiX12 : ∀ w ∈ u_ws RX12 TX12 31, w ∈ wsX12_years := by decide +kernel
  have hf83 := hts (.fieldLink RX12 83 "SpeltByFriendsModel" "people" "I") (by decide +kernel)
  have hl := lv_entry ([.ref (ad 0), .int p1, .int p2, .int p3]) (n := 4) (Nat.le_of_ble_eq_true rfl)
  rw [lg_entry_eq]
  generalize (lg_sl ([.ref (ad 0), .int p1, .int p2, .int p3]) ++ List.replicate (4 - (lg_sl ([.ref (ad 0), .int p1, .int p2, .int p3])).length) Slot.unset).toArray = ls at hl ⊢
  have hl : lv_has ls 4 [(0, .ref (ad 0)), (1, .int p1), (2, .int p2), (3, .int p3)] := hl
  obtain ⟨r, hF, hp⟩ : ∃ r, F_X12_years f0 g0 a0 p1 p2 p3 = some r ∧ r = out := ⟨out, hF, rfl⟩
  unfold F_X12_years at hF
  refine lv_iload_n hx hb dX12_years_0 rfl (lv_at hl 1 rfl) ?_
  refine lv_iconst (v := 1) hx hb dX12_years_1 (by decide) ?_
  refine lv_bipush (v := 60) hx hb dX12_years_2 (by decide) ?_
  refine kS_b (va_runS (As := [.int p1, .int 1, .int 60]) (rest := []) ⟨hx, hb, hml, hown, hts⟩ (c_X12_within l hz D (tM ck) p1 1 60) (va_cwS 3 hts gX12_years_X12_within rfl rfl rfl pX12_within ⟨Nat.le_of_ble_eq_true rfl, Nat.le_of_ble_eq_true rfl⟩) (kR.preS kP_nil (hE.kept hS hnA)) rfl rfl hl.1 rfl (lv_room (Nat.le_of_ble_eq_true rfl)) dX12_years_4 ⟨Nat.le_refl _, Nat.le_refl _⟩) (fun hz1 => ?_)
  refine lv_if_eq (tgt := 23) hx hb dX12_years_7 (by decide) (fun hc2 => ?_) (fun hc2 => ?_)
  · have hF := it_p hc2 hF
    refine lv_bipush (v := (-102)) hx hb dX12_years_23 (by decide) ?_
    have hF := (Option.some.inj hF).trans hp
    subst hF
    exact W.iret hx hb hr (fun t ht hW => ⟨rfl, by rw [ht]; exact hP, hS.F ht⟩) hS.2.2 dX12_years_25
  · have hF := it_n hc2 hF
    refine lv_iload_n hx hb dX12_years_10 rfl (lv_at hl 2 rfl) ?_
    refine lv_if_lt (tgt := 23) hx hb dX12_years_11 (by decide) (fun hc3 => ?_) (fun hc3 => ?_)
    · have hF := it_p hc3 hF
      refine lv_bipush (v := (-102)) hx hb dX12_years_23 (by decide) ?_
      have hF := (Option.some.inj hF).trans hp
      subst hF
      exact W.iret hx hb hr (fun t ht hW => ⟨rfl, by rw [ht]; exact hP, hS.F ht⟩) hS.2.2 dX12_years_25
    · have hF := it_n hc3 hF
      refine lv_iload_n hx hb dX12_years_14 rfl (lv_at hl 3 rfl) ?_
      refine lv_iconst (v := 0) hx hb dX12_years_15 (by decide) ?_
      refine lv_iconst (v := 2) hx hb dX12_years_16 (by decide) ?_
      refine kS_b (va_runS (As := [.int p3, .int 0, .int 2]) (rest := []) ⟨hx, hb, hml, hown, hts⟩ (c_X12_within l hz D (tM ck) p3 0 2) (va_cwS 3 hts gX12_years_X12_within rfl rfl rfl pX12_within ⟨Nat.le_of_ble_eq_true rfl, Nat.le_of_ble_eq_true rfl⟩) (kR.preS kP_nil (hE.kept hS hnA)) rfl rfl hl.1 rfl (lv_room (Nat.le_of_ble_eq_true rfl)) dX12_years_17 ⟨Nat.le_refl _, Nat.le_refl _⟩) (fun hz4 => ?_)
      refine lv_if_ne (tgt := 26) hx hb dX12_years_20 (by decide) (fun hc5 => ?_) (fun hc5 => ?_)
      · have hF := it_n hc5 hF
        refine lv_aload_n hx hb dX12_years_26 rfl (lv_at hl 0 rfl) ?_
        refine va_get (D := D) (ci := 12) (v := .int (f0 1)) (C := RX12) (T := TX12) (N := 31) hx hb hts hiX12 hown hK hP 0 rfl rfl 1 (by decide) hf83 (fun _ h9 => h9) rfl dX12_years_27 ?_
        refine lv_if_ne (tgt := 38) hx hb dX12_years_30 (by decide) (fun hc6 => ?_) (fun hc6 => ?_)
        · have hF := it_n hc6 hF
          refine lv_aload_n hx hb dX12_years_38 rfl (lv_at hl 0 rfl) ?_
          refine lv_iload_n hx hb dX12_years_39 rfl (lv_at hl 1 rfl) ?_
          refine lv_iload_n hx hb dX12_years_40 rfl (lv_at hl 2 rfl) ?_
          refine lv_iload_n hx hb dX12_years_41 rfl (lv_at hl 3 rfl) ?_
          obtain ⟨r7, he7, hF⟩ := bd_s hF
          refine kS_w (va_runV (As := [.int p1, .int p2, .int p3]) (rest := []) ⟨hx, hb, hml, hown, hts⟩ (c_X12_yearsNow l hz D ad ck f0 g0 a0 p1 p2 p3 r7 he7) (cwV 3 hts gX12_years_X12_yearsNow rfl rfl rfl ⟨rfl, pX12_yearsNow⟩ ⟨Nat.le_of_ble_eq_true rfl, Nat.le_of_ble_eq_true rfl⟩) (kW.preV (va_recv hK hP (ci := 12) (q0 := 0) rfl rfl) hP (hE.kept hS hnA) hD hnA) rfl rfl hl.1 rfl (lv_room (Nat.le_of_ble_eq_true rfl)) dX12_years_42 ⟨Nat.le_refl _, Nat.le_refl _⟩) hD hS rfl (fun H locs hP hD hS => ?_)
          have hF := (Option.some.inj hF).trans hp
          subst hF
          exact W.iret hx hb hr (fun t ht hW => ⟨rfl, by rw [ht]; exact hP, hS.F ht⟩) hS.2.2 dX12_years_45
        · have hF := it_p hc6 hF
          refine lv_bipush (v := (-103)) hx hb dX12_years_33 (by decide) ?_
          refine lv_goto (tgt := 45) hx hb dX12_years_35 (by decide) ?_
          have hF := (Option.some.inj hF).trans hp
          subst hF
          exact W.iret hx hb hr (fun t ht hW => ⟨rfl, by rw [ht]; exact hP, hS.F ht⟩) hS.2.2 dX12_years_45
      · have hF := it_p hc5 hF
        refine lv_bipush (v := (-102)) hx hb dX12_years_23 (by decide) ?_
        have hF := (Option.some.inj hF).trans hp
        subst hF
        exact W.iret hx hb hr (fun t ht hW => ⟨rfl, by rw [ht]; exact hP, hS.F ht⟩) hS.2.2 dX12_years_25

def B_X12_image_112 (f112 : Nat → Int32) (g112 : Nat → Int64) (a112 : Nat → Nat → Int32) (x1_112 : Int32) : Option ((Int32 × ST) ⊕ (Int32 × ST)) := if 6 ≤ x1_112 then Option.map Sum.inr (some (((f112 6) + (f112 7)), f112, g112, a112)) else gd (inB x1_112 6) (gd (inB x1_112 6) (gd (inB x1_112 6) (gd (inB x1_112 6) (gd (inB x1_112 6) (gd (inB x1_112 6) (some (.inl ((x1_112 + 1), f112, g112, (ua (ua (ua a112 27 x1_112.toNatClampNeg (a112 9 x1_112.toNatClampNeg)) 28 x1_112.toNatClampNeg ((ua a112 27 x1_112.toNatClampNeg (a112 9 x1_112.toNatClampNeg)) 10 x1_112.toNatClampNeg)) 29 x1_112.toNatClampNeg ((ua (ua a112 27 x1_112.toNatClampNeg (a112 9 x1_112.toNatClampNeg)) 28 x1_112.toNatClampNeg ((ua a112 27 x1_112.toNatClampNeg (a112 9 x1_112.toNatClampNeg)) 10 x1_112.toNatClampNeg)) 11 x1_112.toNatClampNeg))))))))))
def N_X12_image_112 (f112 : Nat → Int32) (g112 : Nat → Int64) (a112 : Nat → Nat → Int32) (x1_112 : Int32) : Option (Int32 × ST) := lpN (fun q112 : (Int32 × ST) => B_X12_image_112 q112.2.1 q112.2.2.1 q112.2.2.2 q112.1) kFu (x1_112, f112, g112, a112)
def B_X12_image_75 (f75 : Nat → Int32) (g75 : Nat → Int64) (a75 : Nat → Nat → Int32) (x1_75 : Int32) : Option ((Int32 × ST) ⊕ (Int32 × ST)) := if 5 ≤ x1_75 then Option.map Sum.inr (N_X12_image_112 f75 g75 a75 0) else gd (inB x1_75 5) (gd (inB x1_75 5) (gd (inB x1_75 5) (gd (inB x1_75 5) (some (.inl ((x1_75 + 1), f75, g75, (ua (ua a75 25 x1_75.toNatClampNeg (a75 4 x1_75.toNatClampNeg)) 26 x1_75.toNatClampNeg ((ua a75 25 x1_75.toNatClampNeg (a75 4 x1_75.toNatClampNeg)) 5 x1_75.toNatClampNeg))))))))
def N_X12_image_75 (f75 : Nat → Int32) (g75 : Nat → Int64) (a75 : Nat → Nat → Int32) (x1_75 : Int32) : Option (Int32 × ST) := lpN (fun q75 : (Int32 × ST) => B_X12_image_75 q75.2.1 q75.2.2.1 q75.2.2.2 q75.1) kFu (x1_75, f75, g75, a75)
def B_X12_image_49 (f49 : Nat → Int32) (g49 : Nat → Int64) (a49 : Nat → Nat → Int32) (x1_49 : Int32) : Option ((Int32 × ST) ⊕ (Int32 × ST)) := if 10 ≤ x1_49 then Option.map Sum.inr (N_X12_image_75 f49 g49 a49 0) else gd (inB x1_49 10) (gd (inB x1_49 10) (some (.inl ((x1_49 + 1), f49, g49, (ua a49 24 x1_49.toNatClampNeg (a49 3 x1_49.toNatClampNeg))))))
def N_X12_image_49 (f49 : Nat → Int32) (g49 : Nat → Int64) (a49 : Nat → Nat → Int32) (x1_49 : Int32) : Option (Int32 × ST) := lpN (fun q49 : (Int32 × ST) => B_X12_image_49 q49.2.1 q49.2.2.1 q49.2.2.2 q49.1) kFu (x1_49, f49, g49, a49)
def F_X12_image (f0 : Nat → Int32) (g0 : Nat → Int64) (a0 : Nat → Nat → Int32) : Option (Int32 × ST) := if (f0 1) = 0 then some ((-103), f0, g0, a0) else N_X12_image_49 (upd (upd (upd (upd (upd f0 19 1) 20 ((upd f0 19 1) 0)) 21 ((upd (upd f0 19 1) 20 ((upd f0 19 1) 0)) 6)) 22 ((upd (upd (upd f0 19 1) 20 ((upd f0 19 1) 0)) 21 ((upd (upd f0 19 1) 20 ((upd f0 19 1) 0)) 6)) 7)) 23 ((upd (upd (upd (upd f0 19 1) 20 ((upd f0 19 1) 0)) 21 ((upd (upd f0 19 1) 20 ((upd f0 19 1) 0)) 6)) 22 ((upd (upd (upd f0 19 1) 20 ((upd f0 19 1) 0)) 21 ((upd (upd f0 19 1) 20 ((upd f0 19 1) 0)) 6)) 7)) 8)) g0 a0 0
set_option maxHeartbeats 4000000 in
set_option maxRecDepth 100000 in
theorem c_X12_image (l : Launch) (hz : Nat) (D : va_G) (ad : Nat → Nat) (ck : Nat → ClassId) (f0 : Nat → Int32) (g0 : Nat → Int64) (a0 : Nat → Nat → Int32) (out : (Int32 × ST)) (hF : F_X12_image f0 g0 a0 = some out) : Met l yX12_image wsX12_image ({ frames := 0, cells := 0, slots := 0, locals := 0 }) (kW hz D vwCl (tM ck) (wM ad ck f0 g0 a0) [.ref (ad 0)]) (kQ D vwCl (some (.int out.1)) (wM ad ck f0 g0 a0) (wM ad ck out.2.1 out.2.2.1 out.2.2.2)) 0 0 (kAd (wM ad ck f0 g0 a0)) := by
  refine Met.ofW (cc := cX12_image) (maxL := 2) (ret := (some .int)) (by decide) rfl ?_
  intro p e s m args below meth c s₁ B hml hv
  obtain ⟨rfl, hP, hE, hD0⟩ := hv
  have hx := B.exec
  have hb := B.bytes
  have hr := B.returns
  have hts := atoms_spec (ws := wsX12_image) B.pre
  have hown : s.vm.findClass RX12 = some m.cls := findClass_of_methodNamed B.named
  have hlocks := B.notSynchronized
  have hK := hE.1
  have hnA := kAd_up hD0
  have hD := kD_self hD0
  have hS : va_S (kAd (wM ad ck f0 g0 a0)) s.heap s.heap [] := va_S.rf
  have hiX12 : ∀ w ∈ u_ws RX12 TX12 31, w ∈ wsX12_image := by decide +kernel
  have hf13 := hts (.fieldLink RX12 13 "SpeltByFriendsModel" "holderOf" "[I") (by decide +kernel)
  have hf16 := hts (.fieldLink RX12 16 "SpeltByFriendsModel" "roomOf" "[I") (by decide +kernel)
  have hf19 := hts (.fieldLink RX12 19 "SpeltByFriendsModel" "quarrelsOf" "[I") (by decide +kernel)
  have hf22 := hts (.fieldLink RX12 22 "SpeltByFriendsModel" "heardWho" "[I") (by decide +kernel)
  have hf25 := hts (.fieldLink RX12 25 "SpeltByFriendsModel" "heardIn" "[I") (by decide +kernel)
  have hf28 := hts (.fieldLink RX12 28 "SpeltByFriendsModel" "heardSo" "[I") (by decide +kernel)
  have hf41 := hts (.fieldLink RX12 41 "SpeltByFriendsModel" "keptHolder" "[I") (by decide +kernel)
  have hf44 := hts (.fieldLink RX12 44 "SpeltByFriendsModel" "keptRoom" "[I") (by decide +kernel)
  have hf47 := hts (.fieldLink RX12 47 "SpeltByFriendsModel" "keptQuarrels" "[I") (by decide +kernel)
  have hf50 := hts (.fieldLink RX12 50 "SpeltByFriendsModel" "keptWho" "[I") (by decide +kernel)
  have hf53 := hts (.fieldLink RX12 53 "SpeltByFriendsModel" "keptIn" "[I") (by decide +kernel)
  have hf56 := hts (.fieldLink RX12 56 "SpeltByFriendsModel" "keptSo" "[I") (by decide +kernel)
  have hf83 := hts (.fieldLink RX12 83 "SpeltByFriendsModel" "people" "I") (by decide +kernel)
  have hf86 := hts (.fieldLink RX12 86 "SpeltByFriendsModel" "towns" "I") (by decide +kernel)
  have hf89 := hts (.fieldLink RX12 89 "SpeltByFriendsModel" "went" "I") (by decide +kernel)
  have hf92 := hts (.fieldLink RX12 92 "SpeltByFriendsModel" "sold" "I") (by decide +kernel)
  have hf95 := hts (.fieldLink RX12 95 "SpeltByFriendsModel" "heard" "I") (by decide +kernel)
  have hf200 := hts (.fieldLink RX12 200 "SpeltByFriendsModel" "isKept" "Z") (by decide +kernel)
  have hf204 := hts (.fieldLink RX12 204 "SpeltByFriendsModel" "keptTown" "I") (by decide +kernel)
  have hf207 := hts (.fieldLink RX12 207 "SpeltByFriendsModel" "keptWent" "I") (by decide +kernel)
  have hf210 := hts (.fieldLink RX12 210 "SpeltByFriendsModel" "keptSold" "I") (by decide +kernel)
  have hf213 := hts (.fieldLink RX12 213 "SpeltByFriendsModel" "keptHeard" "I") (by decide +kernel)
  have hN_112 : ∀ (n112 : Nat) (f112 : Nat → Int32) (g112 : Nat → Int64) (a112 : Nat → Nat → Int32) (H : Heap) (locs : List Loc) (x1_112 : Int32) (ls : Array Slot), va_P D vwCl (wM ad ck f112 g112 a112) H → va_D (kAd (wM ad ck f0 g0 a0)) (wM ad ck f112 g112 a112) → va_S (kAd (wM ad ck f0 g0 a0)) s.heap H locs → lv_has ls 2 [(0, .ref (ad 0)), (1, .int x1_112)] → ∀ r : (Int32 × ST), lpN (fun q112 : (Int32 × ST) => B_X12_image_112 q112.2.1 q112.2.2.1 q112.2.2.2 q112.1) n112 (x1_112, f112, g112, a112) = some r → (fun r => r = out) r → W p l e (headSpec wsX12_image ({ frames := 0, cells := 0, slots := 0, locals := 0 })).room s m [.ref (ad 0)].toArray below meth c H locs 0 0 (MQ below (kQ D vwCl (some (.int out.1)) (wM ad ck f0 g0 a0) (wM ad ck out.2.1 out.2.2.1 out.2.2.2)) [.ref (ad 0)].toArray s 0 0 (kAd (wM ad ck f0 g0 a0))) (F0 m 112 ls []) := by
    intro n112
    induction n112 with
    | zero => intro f112 g112 a112 H locs x1_112 ls hP hD hS hl r hF hp; exact (lp_z hF).elim
    | succ n112 ih112 =>
      intro f112 g112 a112 H locs x1_112 ls hP hD hS hl r hF hp
      obtain ⟨rs, hF, hp⟩ := lpN_K (P := (fun r => r = out)) hF hp
      unfold B_X12_image_112 at hF
      refine lv_iload_n hx hb dX12_image_112 rfl (lv_at hl 1 rfl) ?_
      refine lv_bipush (v := 6) hx hb dX12_image_113 (by decide) ?_
      refine lv_icmp_ge (tgt := 160) hx hb dX12_image_115 (by decide) (fun hc4 => ?_) (fun hc4 => ?_)
      · have hF := it_p hc4 hF
        obtain ⟨r, hF1, hr0⟩ := mp_s hF
        clear hF
        subst hr0
        have hF := hF1
        clear hF1
        have hp : (fun r => r = out) r := hp
        refine lv_aload_n hx hb dX12_image_160 rfl (lv_at hl 0 rfl) ?_
        refine va_get (D := D) (ci := 12) (v := .int (f112 6)) (C := RX12) (T := TX12) (N := 31) hx hb hts hiX12 hown hK hP 0 rfl rfl 6 (by decide) hf89 (fun _ h9 => h9) rfl dX12_image_161 ?_
        refine lv_aload_n hx hb dX12_image_164 rfl (lv_at hl 0 rfl) ?_
        refine va_get (D := D) (ci := 12) (v := .int (f112 7)) (C := RX12) (T := TX12) (N := 31) hx hb hts hiX12 hown hK hP 0 rfl rfl 7 (by decide) hf92 (fun _ h9 => h9) rfl dX12_image_165 ?_
        refine lv_iadd hx hb dX12_image_168 ?_
        have hF := (Option.some.inj hF).trans hp
        subst hF
        exact W.iret hx hb hr (fun t ht hW => ⟨rfl, by rw [ht]; exact hP, hS.F ht⟩) hS.2.2 dX12_image_169
      · have hF := it_n hc4 hF
        refine lv_aload_n hx hb dX12_image_118 rfl (lv_at hl 0 rfl) ?_
        refine va_get (D := D) (ci := 12) (v := .ref (ad 27)) (C := RX12) (T := TX12) (N := 31) hx hb hts hiX12 hown hK hP 0 rfl rfl 27 (by decide) hf50 (fun _ h9 => h9) rfl dX12_image_119 ?_
        refine lv_iload_n hx hb dX12_image_122 rfl (lv_at hl 1 rfl) ?_
        refine lv_aload_n hx hb dX12_image_123 rfl (lv_at hl 0 rfl) ?_
        refine va_get (D := D) (ci := 12) (v := .ref (ad 9)) (C := RX12) (T := TX12) (N := 31) hx hb hts hiX12 hown hK hP 0 rfl rfl 9 (by decide) hf22 (fun _ h9 => h9) rfl dX12_image_124 ?_
        refine lv_iload_n hx hb dX12_image_127 rfl (lv_at hl 1 rfl) ?_
        obtain ⟨hg5, hF⟩ := gd_s hF
        refine va_iald hx hb hK hP 5 4 rfl rfl (inB_in hg5) dX12_image_128 ?_
        obtain ⟨hg6, hF⟩ := gd_s hF
        refine va_iast hx hb hK hP hD hS 14 13 rfl rfl (inB_in hg6) dX12_image_129 (fun H locs hP hD hS => ?_)
        have hP := kPe (eu_wM27 ad ck f112 g112 a112 x1_112.toNatClampNeg (a112 9 x1_112.toNatClampNeg)) hP
        have hD := kDe (eu_wM27 ad ck f112 g112 a112 x1_112.toNatClampNeg (a112 9 x1_112.toNatClampNeg)) hD
        refine lv_aload_n hx hb dX12_image_130 rfl (lv_at hl 0 rfl) ?_
        refine va_get (D := D) (ci := 12) (v := .ref (ad 28)) (C := RX12) (T := TX12) (N := 31) hx hb hts hiX12 hown hK hP 0 rfl rfl 28 (by decide) hf53 (fun _ h9 => h9) rfl dX12_image_131 ?_
        refine lv_iload_n hx hb dX12_image_134 rfl (lv_at hl 1 rfl) ?_
        refine lv_aload_n hx hb dX12_image_135 rfl (lv_at hl 0 rfl) ?_
        refine va_get (D := D) (ci := 12) (v := .ref (ad 10)) (C := RX12) (T := TX12) (N := 31) hx hb hts hiX12 hown hK hP 0 rfl rfl 10 (by decide) hf25 (fun _ h9 => h9) rfl dX12_image_136 ?_
        refine lv_iload_n hx hb dX12_image_139 rfl (lv_at hl 1 rfl) ?_
        obtain ⟨hg7, hF⟩ := gd_s hF
        refine va_iald hx hb hK hP 6 5 rfl rfl (inB_in hg7) dX12_image_140 ?_
        obtain ⟨hg8, hF⟩ := gd_s hF
        refine va_iast hx hb hK hP hD hS 15 14 rfl rfl (inB_in hg8) dX12_image_141 (fun H locs hP hD hS => ?_)
        have hP := kPe (eu_wM28 ad ck f112 g112 (ua a112 27 x1_112.toNatClampNeg (a112 9 x1_112.toNatClampNeg)) x1_112.toNatClampNeg ((ua a112 27 x1_112.toNatClampNeg (a112 9 x1_112.toNatClampNeg)) 10 x1_112.toNatClampNeg)) hP
        have hD := kDe (eu_wM28 ad ck f112 g112 (ua a112 27 x1_112.toNatClampNeg (a112 9 x1_112.toNatClampNeg)) x1_112.toNatClampNeg ((ua a112 27 x1_112.toNatClampNeg (a112 9 x1_112.toNatClampNeg)) 10 x1_112.toNatClampNeg)) hD
        refine lv_aload_n hx hb dX12_image_142 rfl (lv_at hl 0 rfl) ?_
        refine va_get (D := D) (ci := 12) (v := .ref (ad 29)) (C := RX12) (T := TX12) (N := 31) hx hb hts hiX12 hown hK hP 0 rfl rfl 29 (by decide) hf56 (fun _ h9 => h9) rfl dX12_image_143 ?_
        refine lv_iload_n hx hb dX12_image_146 rfl (lv_at hl 1 rfl) ?_
        refine lv_aload_n hx hb dX12_image_147 rfl (lv_at hl 0 rfl) ?_
        refine va_get (D := D) (ci := 12) (v := .ref (ad 11)) (C := RX12) (T := TX12) (N := 31) hx hb hts hiX12 hown hK hP 0 rfl rfl 11 (by decide) hf28 (fun _ h9 => h9) rfl dX12_image_148 ?_
        refine lv_iload_n hx hb dX12_image_151 rfl (lv_at hl 1 rfl) ?_
        obtain ⟨hg9, hF⟩ := gd_s hF
        refine va_iald hx hb hK hP 7 6 rfl rfl (inB_in hg9) dX12_image_152 ?_
        obtain ⟨hg10, hF⟩ := gd_s hF
        refine va_iast hx hb hK hP hD hS 16 15 rfl rfl (inB_in hg10) dX12_image_153 (fun H locs hP hD hS => ?_)
        have hP := kPe (eu_wM29 ad ck f112 g112 (ua (ua a112 27 x1_112.toNatClampNeg (a112 9 x1_112.toNatClampNeg)) 28 x1_112.toNatClampNeg ((ua a112 27 x1_112.toNatClampNeg (a112 9 x1_112.toNatClampNeg)) 10 x1_112.toNatClampNeg)) x1_112.toNatClampNeg ((ua (ua a112 27 x1_112.toNatClampNeg (a112 9 x1_112.toNatClampNeg)) 28 x1_112.toNatClampNeg ((ua a112 27 x1_112.toNatClampNeg (a112 9 x1_112.toNatClampNeg)) 10 x1_112.toNatClampNeg)) 11 x1_112.toNatClampNeg)) hP
        have hD := kDe (eu_wM29 ad ck f112 g112 (ua (ua a112 27 x1_112.toNatClampNeg (a112 9 x1_112.toNatClampNeg)) 28 x1_112.toNatClampNeg ((ua a112 27 x1_112.toNatClampNeg (a112 9 x1_112.toNatClampNeg)) 10 x1_112.toNatClampNeg)) x1_112.toNatClampNeg ((ua (ua a112 27 x1_112.toNatClampNeg (a112 9 x1_112.toNatClampNeg)) 28 x1_112.toNatClampNeg ((ua a112 27 x1_112.toNatClampNeg (a112 9 x1_112.toNatClampNeg)) 10 x1_112.toNatClampNeg)) 11 x1_112.toNatClampNeg)) hD
        refine lv_iinc (v := (x1_112 + 1)) (lv' := [(1, .int (x1_112 + 1)), (0, .ref (ad 0))]) hx hb dX12_image_154 hl (k := 1) rfl rfl (by decide) rfl (fun ls hl => ?_)
        refine lv_goto (tgt := 112) hx hb dX12_image_157 (by decide) ?_
        have hF := Option.some.inj hF
        subst hF
        obtain ⟨r, hF, hp⟩ := hp
        exact ih112 f112 g112 (ua (ua (ua a112 27 x1_112.toNatClampNeg (a112 9 x1_112.toNatClampNeg)) 28 x1_112.toNatClampNeg ((ua a112 27 x1_112.toNatClampNeg (a112 9 x1_112.toNatClampNeg)) 10 x1_112.toNatClampNeg)) 29 x1_112.toNatClampNeg ((ua (ua a112 27 x1_112.toNatClampNeg (a112 9 x1_112.toNatClampNeg)) 28 x1_112.toNatClampNeg ((ua a112 27 x1_112.toNatClampNeg (a112 9 x1_112.toNatClampNeg)) 10 x1_112.toNatClampNeg)) 11 x1_112.toNatClampNeg)) _ _ (x1_112 + 1) ls hP hD hS (lv_sub hl [1, 0] rfl) r hF hp
  have hN_75 : ∀ (n75 : Nat) (f75 : Nat → Int32) (g75 : Nat → Int64) (a75 : Nat → Nat → Int32) (H : Heap) (locs : List Loc) (x1_75 : Int32) (ls : Array Slot), va_P D vwCl (wM ad ck f75 g75 a75) H → va_D (kAd (wM ad ck f0 g0 a0)) (wM ad ck f75 g75 a75) → va_S (kAd (wM ad ck f0 g0 a0)) s.heap H locs → lv_has ls 2 [(0, .ref (ad 0)), (1, .int x1_75)] → ∀ r : (Int32 × ST), lpN (fun q75 : (Int32 × ST) => B_X12_image_75 q75.2.1 q75.2.2.1 q75.2.2.2 q75.1) n75 (x1_75, f75, g75, a75) = some r → (fun r => r = out) r → W p l e (headSpec wsX12_image ({ frames := 0, cells := 0, slots := 0, locals := 0 })).room s m [.ref (ad 0)].toArray below meth c H locs 0 0 (MQ below (kQ D vwCl (some (.int out.1)) (wM ad ck f0 g0 a0) (wM ad ck out.2.1 out.2.2.1 out.2.2.2)) [.ref (ad 0)].toArray s 0 0 (kAd (wM ad ck f0 g0 a0))) (F0 m 75 ls []) := by
    intro n75
    induction n75 with
    | zero => intro f75 g75 a75 H locs x1_75 ls hP hD hS hl r hF hp; exact (lp_z hF).elim
    | succ n75 ih75 =>
      intro f75 g75 a75 H locs x1_75 ls hP hD hS hl r hF hp
      obtain ⟨rs, hF, hp⟩ := lpN_K (P := (fun r => r = out)) hF hp
      unfold B_X12_image_75 at hF
      refine lv_iload_n hx hb dX12_image_75 rfl (lv_at hl 1 rfl) ?_
      refine lv_iconst (v := 5) hx hb dX12_image_76 (by decide) ?_
      refine lv_icmp_ge (tgt := 110) hx hb dX12_image_77 (by decide) (fun hc3 => ?_) (fun hc3 => ?_)
      · have hF := it_p hc3 hF
        obtain ⟨r, hF1, hr0⟩ := mp_s hF
        clear hF
        subst hr0
        have hF := hF1
        clear hF1
        have hp : (fun r => r = out) r := hp
        refine lv_iconst (v := 0) hx hb dX12_image_110 (by decide) ?_
        refine lv_istore_n (lv' := [(1, .int 0), (0, .ref (ad 0))]) hx hb dX12_image_111 rfl hl (by decide) rfl (fun ls hl => ?_)
        exact hN_112 kFu f75 g75 a75 _ _ 0 ls hP hD hS (lv_sub hl [1, 0] rfl) _ hF hp
      · have hF := it_n hc3 hF
        refine lv_aload_n hx hb dX12_image_80 rfl (lv_at hl 0 rfl) ?_
        refine va_get (D := D) (ci := 12) (v := .ref (ad 25)) (C := RX12) (T := TX12) (N := 31) hx hb hts hiX12 hown hK hP 0 rfl rfl 25 (by decide) hf44 (fun _ h9 => h9) rfl dX12_image_81 ?_
        refine lv_iload_n hx hb dX12_image_84 rfl (lv_at hl 1 rfl) ?_
        refine lv_aload_n hx hb dX12_image_85 rfl (lv_at hl 0 rfl) ?_
        refine va_get (D := D) (ci := 12) (v := .ref (ad 4)) (C := RX12) (T := TX12) (N := 31) hx hb hts hiX12 hown hK hP 0 rfl rfl 4 (by decide) hf16 (fun _ h9 => h9) rfl dX12_image_86 ?_
        refine lv_iload_n hx hb dX12_image_89 rfl (lv_at hl 1 rfl) ?_
        obtain ⟨hg11, hF⟩ := gd_s hF
        refine va_iald hx hb hK hP 3 2 rfl rfl (inB_in hg11) dX12_image_90 ?_
        obtain ⟨hg12, hF⟩ := gd_s hF
        refine va_iast hx hb hK hP hD hS 12 11 rfl rfl (inB_in hg12) dX12_image_91 (fun H locs hP hD hS => ?_)
        have hP := kPe (eu_wM25 ad ck f75 g75 a75 x1_75.toNatClampNeg (a75 4 x1_75.toNatClampNeg)) hP
        have hD := kDe (eu_wM25 ad ck f75 g75 a75 x1_75.toNatClampNeg (a75 4 x1_75.toNatClampNeg)) hD
        refine lv_aload_n hx hb dX12_image_92 rfl (lv_at hl 0 rfl) ?_
        refine va_get (D := D) (ci := 12) (v := .ref (ad 26)) (C := RX12) (T := TX12) (N := 31) hx hb hts hiX12 hown hK hP 0 rfl rfl 26 (by decide) hf47 (fun _ h9 => h9) rfl dX12_image_93 ?_
        refine lv_iload_n hx hb dX12_image_96 rfl (lv_at hl 1 rfl) ?_
        refine lv_aload_n hx hb dX12_image_97 rfl (lv_at hl 0 rfl) ?_
        refine va_get (D := D) (ci := 12) (v := .ref (ad 5)) (C := RX12) (T := TX12) (N := 31) hx hb hts hiX12 hown hK hP 0 rfl rfl 5 (by decide) hf19 (fun _ h9 => h9) rfl dX12_image_98 ?_
        refine lv_iload_n hx hb dX12_image_101 rfl (lv_at hl 1 rfl) ?_
        obtain ⟨hg13, hF⟩ := gd_s hF
        refine va_iald hx hb hK hP 4 3 rfl rfl (inB_in hg13) dX12_image_102 ?_
        obtain ⟨hg14, hF⟩ := gd_s hF
        refine va_iast hx hb hK hP hD hS 13 12 rfl rfl (inB_in hg14) dX12_image_103 (fun H locs hP hD hS => ?_)
        have hP := kPe (eu_wM26 ad ck f75 g75 (ua a75 25 x1_75.toNatClampNeg (a75 4 x1_75.toNatClampNeg)) x1_75.toNatClampNeg ((ua a75 25 x1_75.toNatClampNeg (a75 4 x1_75.toNatClampNeg)) 5 x1_75.toNatClampNeg)) hP
        have hD := kDe (eu_wM26 ad ck f75 g75 (ua a75 25 x1_75.toNatClampNeg (a75 4 x1_75.toNatClampNeg)) x1_75.toNatClampNeg ((ua a75 25 x1_75.toNatClampNeg (a75 4 x1_75.toNatClampNeg)) 5 x1_75.toNatClampNeg)) hD
        refine lv_iinc (v := (x1_75 + 1)) (lv' := [(1, .int (x1_75 + 1)), (0, .ref (ad 0))]) hx hb dX12_image_104 hl (k := 1) rfl rfl (by decide) rfl (fun ls hl => ?_)
        refine lv_goto (tgt := 75) hx hb dX12_image_107 (by decide) ?_
        have hF := Option.some.inj hF
        subst hF
        obtain ⟨r, hF, hp⟩ := hp
        exact ih75 f75 g75 (ua (ua a75 25 x1_75.toNatClampNeg (a75 4 x1_75.toNatClampNeg)) 26 x1_75.toNatClampNeg ((ua a75 25 x1_75.toNatClampNeg (a75 4 x1_75.toNatClampNeg)) 5 x1_75.toNatClampNeg)) _ _ (x1_75 + 1) ls hP hD hS (lv_sub hl [1, 0] rfl) r hF hp
  have hN_49 : ∀ (n49 : Nat) (f49 : Nat → Int32) (g49 : Nat → Int64) (a49 : Nat → Nat → Int32) (H : Heap) (locs : List Loc) (x1_49 : Int32) (ls : Array Slot), va_P D vwCl (wM ad ck f49 g49 a49) H → va_D (kAd (wM ad ck f0 g0 a0)) (wM ad ck f49 g49 a49) → va_S (kAd (wM ad ck f0 g0 a0)) s.heap H locs → lv_has ls 2 [(0, .ref (ad 0)), (1, .int x1_49)] → ∀ r : (Int32 × ST), lpN (fun q49 : (Int32 × ST) => B_X12_image_49 q49.2.1 q49.2.2.1 q49.2.2.2 q49.1) n49 (x1_49, f49, g49, a49) = some r → (fun r => r = out) r → W p l e (headSpec wsX12_image ({ frames := 0, cells := 0, slots := 0, locals := 0 })).room s m [.ref (ad 0)].toArray below meth c H locs 0 0 (MQ below (kQ D vwCl (some (.int out.1)) (wM ad ck f0 g0 a0) (wM ad ck out.2.1 out.2.2.1 out.2.2.2)) [.ref (ad 0)].toArray s 0 0 (kAd (wM ad ck f0 g0 a0))) (F0 m 49 ls []) := by
    intro n49
    induction n49 with
    | zero => intro f49 g49 a49 H locs x1_49 ls hP hD hS hl r hF hp; exact (lp_z hF).elim
    | succ n49 ih49 =>
      intro f49 g49 a49 H locs x1_49 ls hP hD hS hl r hF hp
      obtain ⟨rs, hF, hp⟩ := lpN_K (P := (fun r => r = out)) hF hp
      unfold B_X12_image_49 at hF
      refine lv_iload_n hx hb dX12_image_49 rfl (lv_at hl 1 rfl) ?_
      refine lv_bipush (v := 10) hx hb dX12_image_50 (by decide) ?_
      refine lv_icmp_ge (tgt := 73) hx hb dX12_image_52 (by decide) (fun hc2 => ?_) (fun hc2 => ?_)
      · have hF := it_p hc2 hF
        obtain ⟨r, hF1, hr0⟩ := mp_s hF
        clear hF
        subst hr0
        have hF := hF1
        clear hF1
        have hp : (fun r => r = out) r := hp
        refine lv_iconst (v := 0) hx hb dX12_image_73 (by decide) ?_
        refine lv_istore_n (lv' := [(1, .int 0), (0, .ref (ad 0))]) hx hb dX12_image_74 rfl hl (by decide) rfl (fun ls hl => ?_)
        exact hN_75 kFu f49 g49 a49 _ _ 0 ls hP hD hS (lv_sub hl [1, 0] rfl) _ hF hp
      · have hF := it_n hc2 hF
        refine lv_aload_n hx hb dX12_image_55 rfl (lv_at hl 0 rfl) ?_
        refine va_get (D := D) (ci := 12) (v := .ref (ad 24)) (C := RX12) (T := TX12) (N := 31) hx hb hts hiX12 hown hK hP 0 rfl rfl 24 (by decide) hf41 (fun _ h9 => h9) rfl dX12_image_56 ?_
        refine lv_iload_n hx hb dX12_image_59 rfl (lv_at hl 1 rfl) ?_
        refine lv_aload_n hx hb dX12_image_60 rfl (lv_at hl 0 rfl) ?_
        refine va_get (D := D) (ci := 12) (v := .ref (ad 3)) (C := RX12) (T := TX12) (N := 31) hx hb hts hiX12 hown hK hP 0 rfl rfl 3 (by decide) hf13 (fun _ h9 => h9) rfl dX12_image_61 ?_
        refine lv_iload_n hx hb dX12_image_64 rfl (lv_at hl 1 rfl) ?_
        obtain ⟨hg15, hF⟩ := gd_s hF
        refine va_iald hx hb hK hP 2 1 rfl rfl (inB_in hg15) dX12_image_65 ?_
        obtain ⟨hg16, hF⟩ := gd_s hF
        refine va_iast hx hb hK hP hD hS 11 10 rfl rfl (inB_in hg16) dX12_image_66 (fun H locs hP hD hS => ?_)
        have hP := kPe (eu_wM24 ad ck f49 g49 a49 x1_49.toNatClampNeg (a49 3 x1_49.toNatClampNeg)) hP
        have hD := kDe (eu_wM24 ad ck f49 g49 a49 x1_49.toNatClampNeg (a49 3 x1_49.toNatClampNeg)) hD
        refine lv_iinc (v := (x1_49 + 1)) (lv' := [(1, .int (x1_49 + 1)), (0, .ref (ad 0))]) hx hb dX12_image_67 hl (k := 1) rfl rfl (by decide) rfl (fun ls hl => ?_)
        refine lv_goto (tgt := 49) hx hb dX12_image_70 (by decide) ?_
        have hF := Option.some.inj hF
        subst hF
        obtain ⟨r, hF, hp⟩ := hp
        exact ih49 f49 g49 (ua a49 24 x1_49.toNatClampNeg (a49 3 x1_49.toNatClampNeg)) _ _ (x1_49 + 1) ls hP hD hS (lv_sub hl [1, 0] rfl) r hF hp
  have hl := lv_entry ([.ref (ad 0)]) (n := 2) (Nat.le_of_ble_eq_true rfl)
  rw [lg_entry_eq]
  generalize (lg_sl ([.ref (ad 0)]) ++ List.replicate (2 - (lg_sl ([.ref (ad 0)])).length) Slot.unset).toArray = ls at hl ⊢
  have hl : lv_has ls 2 [(0, .ref (ad 0))] := hl
  obtain ⟨r, hF, hp⟩ : ∃ r, F_X12_image f0 g0 a0 = some r ∧ r = out := ⟨out, hF, rfl⟩
  unfold F_X12_image at hF
  refine lv_aload_n hx hb dX12_image_0 rfl (lv_at hl 0 rfl) ?_
  refine va_get (D := D) (ci := 12) (v := .int (f0 1)) (C := RX12) (T := TX12) (N := 31) hx hb hts hiX12 hown hK hP 0 rfl rfl 1 (by decide) hf83 (fun _ h9 => h9) rfl dX12_image_1 ?_
  refine lv_if_ne (tgt := 10) hx hb dX12_image_4 (by decide) (fun hc1 => ?_) (fun hc1 => ?_)
  · have hF := it_n hc1 hF
    refine lv_aload_n hx hb dX12_image_10 rfl (lv_at hl 0 rfl) ?_
    refine lv_iconst (v := 1) hx hb dX12_image_11 (by decide) ?_
    refine va_put (D := D) (ci := 12) (v := .int 1) (ty := .boolean) (C := RX12) (T := TX12) (N := 31) hx hb hts hiX12 tyX12 tyX12_ok nmX12 hown hK hP hD hS 0 rfl rfl 19 (by decide) hf200 (fun _ h9 => h9) rfl (tyX12_ok 19 (by decide)) rfl rfl (Nat.le_of_ble_eq_true rfl) dX12_image_12 (fun H locs hP hD hS => ?_)
    have hP := kPe (ef_wM0_19 ad ck f0 g0 a0 1) hP
    have hD := kDe (ef_wM0_19 ad ck f0 g0 a0 1) hD
    refine lv_aload_n hx hb dX12_image_15 rfl (lv_at hl 0 rfl) ?_
    refine lv_aload_n hx hb dX12_image_16 rfl (lv_at hl 0 rfl) ?_
    refine va_get (D := D) (ci := 12) (v := .int ((upd f0 19 1) 0)) (C := RX12) (T := TX12) (N := 31) hx hb hts hiX12 hown hK hP 0 rfl rfl 0 (by decide) hf86 (fun _ h9 => h9) rfl dX12_image_17 ?_
    refine va_put (D := D) (ci := 12) (v := .int ((upd f0 19 1) 0)) (ty := .int) (C := RX12) (T := TX12) (N := 31) hx hb hts hiX12 tyX12 tyX12_ok nmX12 hown hK hP hD hS 0 rfl rfl 20 (by decide) hf204 (fun _ h9 => h9) rfl (tyX12_ok 20 (by decide)) rfl rfl (Nat.le_of_ble_eq_true rfl) dX12_image_20 (fun H locs hP hD hS => ?_)
    have hP := kPe (ef_wM0_20 ad ck (upd f0 19 1) g0 a0 ((upd f0 19 1) 0)) hP
    have hD := kDe (ef_wM0_20 ad ck (upd f0 19 1) g0 a0 ((upd f0 19 1) 0)) hD
    refine lv_aload_n hx hb dX12_image_23 rfl (lv_at hl 0 rfl) ?_
    refine lv_aload_n hx hb dX12_image_24 rfl (lv_at hl 0 rfl) ?_
    refine va_get (D := D) (ci := 12) (v := .int ((upd (upd f0 19 1) 20 ((upd f0 19 1) 0)) 6)) (C := RX12) (T := TX12) (N := 31) hx hb hts hiX12 hown hK hP 0 rfl rfl 6 (by decide) hf89 (fun _ h9 => h9) rfl dX12_image_25 ?_
    refine va_put (D := D) (ci := 12) (v := .int ((upd (upd f0 19 1) 20 ((upd f0 19 1) 0)) 6)) (ty := .int) (C := RX12) (T := TX12) (N := 31) hx hb hts hiX12 tyX12 tyX12_ok nmX12 hown hK hP hD hS 0 rfl rfl 21 (by decide) hf207 (fun _ h9 => h9) rfl (tyX12_ok 21 (by decide)) rfl rfl (Nat.le_of_ble_eq_true rfl) dX12_image_28 (fun H locs hP hD hS => ?_)
    have hP := kPe (ef_wM0_21 ad ck (upd (upd f0 19 1) 20 ((upd f0 19 1) 0)) g0 a0 ((upd (upd f0 19 1) 20 ((upd f0 19 1) 0)) 6)) hP
    have hD := kDe (ef_wM0_21 ad ck (upd (upd f0 19 1) 20 ((upd f0 19 1) 0)) g0 a0 ((upd (upd f0 19 1) 20 ((upd f0 19 1) 0)) 6)) hD
    refine lv_aload_n hx hb dX12_image_31 rfl (lv_at hl 0 rfl) ?_
    refine lv_aload_n hx hb dX12_image_32 rfl (lv_at hl 0 rfl) ?_
    refine va_get (D := D) (ci := 12) (v := .int ((upd (upd (upd f0 19 1) 20 ((upd f0 19 1) 0)) 21 ((upd (upd f0 19 1) 20 ((upd f0 19 1) 0)) 6)) 7)) (C := RX12) (T := TX12) (N := 31) hx hb hts hiX12 hown hK hP 0 rfl rfl 7 (by decide) hf92 (fun _ h9 => h9) rfl dX12_image_33 ?_
    refine va_put (D := D) (ci := 12) (v := .int ((upd (upd (upd f0 19 1) 20 ((upd f0 19 1) 0)) 21 ((upd (upd f0 19 1) 20 ((upd f0 19 1) 0)) 6)) 7)) (ty := .int) (C := RX12) (T := TX12) (N := 31) hx hb hts hiX12 tyX12 tyX12_ok nmX12 hown hK hP hD hS 0 rfl rfl 22 (by decide) hf210 (fun _ h9 => h9) rfl (tyX12_ok 22 (by decide)) rfl rfl (Nat.le_of_ble_eq_true rfl) dX12_image_36 (fun H locs hP hD hS => ?_)
    have hP := kPe (ef_wM0_22 ad ck (upd (upd (upd f0 19 1) 20 ((upd f0 19 1) 0)) 21 ((upd (upd f0 19 1) 20 ((upd f0 19 1) 0)) 6)) g0 a0 ((upd (upd (upd f0 19 1) 20 ((upd f0 19 1) 0)) 21 ((upd (upd f0 19 1) 20 ((upd f0 19 1) 0)) 6)) 7)) hP
    have hD := kDe (ef_wM0_22 ad ck (upd (upd (upd f0 19 1) 20 ((upd f0 19 1) 0)) 21 ((upd (upd f0 19 1) 20 ((upd f0 19 1) 0)) 6)) g0 a0 ((upd (upd (upd f0 19 1) 20 ((upd f0 19 1) 0)) 21 ((upd (upd f0 19 1) 20 ((upd f0 19 1) 0)) 6)) 7)) hD
    refine lv_aload_n hx hb dX12_image_39 rfl (lv_at hl 0 rfl) ?_
    refine lv_aload_n hx hb dX12_image_40 rfl (lv_at hl 0 rfl) ?_
    refine va_get (D := D) (ci := 12) (v := .int ((upd (upd (upd (upd f0 19 1) 20 ((upd f0 19 1) 0)) 21 ((upd (upd f0 19 1) 20 ((upd f0 19 1) 0)) 6)) 22 ((upd (upd (upd f0 19 1) 20 ((upd f0 19 1) 0)) 21 ((upd (upd f0 19 1) 20 ((upd f0 19 1) 0)) 6)) 7)) 8)) (C := RX12) (T := TX12) (N := 31) hx hb hts hiX12 hown hK hP 0 rfl rfl 8 (by decide) hf95 (fun _ h9 => h9) rfl dX12_image_41 ?_
    refine va_put (D := D) (ci := 12) (v := .int ((upd (upd (upd (upd f0 19 1) 20 ((upd f0 19 1) 0)) 21 ((upd (upd f0 19 1) 20 ((upd f0 19 1) 0)) 6)) 22 ((upd (upd (upd f0 19 1) 20 ((upd f0 19 1) 0)) 21 ((upd (upd f0 19 1) 20 ((upd f0 19 1) 0)) 6)) 7)) 8)) (ty := .int) (C := RX12) (T := TX12) (N := 31) hx hb hts hiX12 tyX12 tyX12_ok nmX12 hown hK hP hD hS 0 rfl rfl 23 (by decide) hf213 (fun _ h9 => h9) rfl (tyX12_ok 23 (by decide)) rfl rfl (Nat.le_of_ble_eq_true rfl) dX12_image_44 (fun H locs hP hD hS => ?_)
    have hP := kPe (ef_wM0_23 ad ck (upd (upd (upd (upd f0 19 1) 20 ((upd f0 19 1) 0)) 21 ((upd (upd f0 19 1) 20 ((upd f0 19 1) 0)) 6)) 22 ((upd (upd (upd f0 19 1) 20 ((upd f0 19 1) 0)) 21 ((upd (upd f0 19 1) 20 ((upd f0 19 1) 0)) 6)) 7)) g0 a0 ((upd (upd (upd (upd f0 19 1) 20 ((upd f0 19 1) 0)) 21 ((upd (upd f0 19 1) 20 ((upd f0 19 1) 0)) 6)) 22 ((upd (upd (upd f0 19 1) 20 ((upd f0 19 1) 0)) 21 ((upd (upd f0 19 1) 20 ((upd f0 19 1) 0)) 6)) 7)) 8)) hP
    have hD := kDe (ef_wM0_23 ad ck (upd (upd (upd (upd f0 19 1) 20 ((upd f0 19 1) 0)) 21 ((upd (upd f0 19 1) 20 ((upd f0 19 1) 0)) 6)) 22 ((upd (upd (upd f0 19 1) 20 ((upd f0 19 1) 0)) 21 ((upd (upd f0 19 1) 20 ((upd f0 19 1) 0)) 6)) 7)) g0 a0 ((upd (upd (upd (upd f0 19 1) 20 ((upd f0 19 1) 0)) 21 ((upd (upd f0 19 1) 20 ((upd f0 19 1) 0)) 6)) 22 ((upd (upd (upd f0 19 1) 20 ((upd f0 19 1) 0)) 21 ((upd (upd f0 19 1) 20 ((upd f0 19 1) 0)) 6)) 7)) 8)) hD
    refine lv_iconst (v := 0) hx hb dX12_image_47 (by decide) ?_
    refine lv_istore_n (lv' := [(1, .int 0), (0, .ref (ad 0))]) hx hb dX12_image_48 rfl hl (by decide) rfl (fun ls hl => ?_)
    exact hN_49 kFu (upd (upd (upd (upd (upd f0 19 1) 20 ((upd f0 19 1) 0)) 21 ((upd (upd f0 19 1) 20 ((upd f0 19 1) 0)) 6)) 22 ((upd (upd (upd f0 19 1) 20 ((upd f0 19 1) 0)) 21 ((upd (upd f0 19 1) 20 ((upd f0 19 1) 0)) 6)) 7)) 23 ((upd (upd (upd (upd f0 19 1) 20 ((upd f0 19 1) 0)) 21 ((upd (upd f0 19 1) 20 ((upd f0 19 1) 0)) 6)) 22 ((upd (upd (upd f0 19 1) 20 ((upd f0 19 1) 0)) 21 ((upd (upd f0 19 1) 20 ((upd f0 19 1) 0)) 6)) 7)) 8)) g0 a0 _ _ 0 ls hP hD hS (lv_sub hl [1, 0] rfl) _ hF hp
  · have hF := it_p hc1 hF
    refine lv_bipush (v := (-103)) hx hb dX12_image_7 (by decide) ?_
    have hF := (Option.some.inj hF).trans hp
    subst hF
    exact W.iret hx hb hr (fun t ht hW => ⟨rfl, by rw [ht]; exact hP, hS.F ht⟩) hS.2.2 dX12_image_9

def B_X12_restore_110 (f110 : Nat → Int32) (g110 : Nat → Int64) (a110 : Nat → Nat → Int32) (x1_110 : Int32) : Option ((Int32 × ST) ⊕ (Int32 × ST)) := if 6 ≤ x1_110 then Option.map Sum.inr (some (((f110 6) + (f110 7)), f110, g110, a110)) else gd (inB x1_110 6) (gd (inB x1_110 6) (gd (inB x1_110 6) (gd (inB x1_110 6) (gd (inB x1_110 6) (gd (inB x1_110 6) (some (.inl ((x1_110 + 1), f110, g110, (ua (ua (ua a110 9 x1_110.toNatClampNeg (a110 27 x1_110.toNatClampNeg)) 10 x1_110.toNatClampNeg ((ua a110 9 x1_110.toNatClampNeg (a110 27 x1_110.toNatClampNeg)) 28 x1_110.toNatClampNeg)) 11 x1_110.toNatClampNeg ((ua (ua a110 9 x1_110.toNatClampNeg (a110 27 x1_110.toNatClampNeg)) 10 x1_110.toNatClampNeg ((ua a110 9 x1_110.toNatClampNeg (a110 27 x1_110.toNatClampNeg)) 28 x1_110.toNatClampNeg)) 29 x1_110.toNatClampNeg))))))))))
def N_X12_restore_110 (f110 : Nat → Int32) (g110 : Nat → Int64) (a110 : Nat → Nat → Int32) (x1_110 : Int32) : Option (Int32 × ST) := lpN (fun q110 : (Int32 × ST) => B_X12_restore_110 q110.2.1 q110.2.2.1 q110.2.2.2 q110.1) kFu (x1_110, f110, g110, a110)
def B_X12_restore_73 (f73 : Nat → Int32) (g73 : Nat → Int64) (a73 : Nat → Nat → Int32) (x1_73 : Int32) : Option ((Int32 × ST) ⊕ (Int32 × ST)) := if 5 ≤ x1_73 then Option.map Sum.inr (N_X12_restore_110 f73 g73 a73 0) else gd (inB x1_73 5) (gd (inB x1_73 5) (gd (inB x1_73 5) (gd (inB x1_73 5) (some (.inl ((x1_73 + 1), f73, g73, (ua (ua a73 4 x1_73.toNatClampNeg (a73 25 x1_73.toNatClampNeg)) 5 x1_73.toNatClampNeg ((ua a73 4 x1_73.toNatClampNeg (a73 25 x1_73.toNatClampNeg)) 26 x1_73.toNatClampNeg))))))))
def N_X12_restore_73 (f73 : Nat → Int32) (g73 : Nat → Int64) (a73 : Nat → Nat → Int32) (x1_73 : Int32) : Option (Int32 × ST) := lpN (fun q73 : (Int32 × ST) => B_X12_restore_73 q73.2.1 q73.2.2.1 q73.2.2.2 q73.1) kFu (x1_73, f73, g73, a73)
def B_X12_restore_47 (f47 : Nat → Int32) (g47 : Nat → Int64) (a47 : Nat → Nat → Int32) (x1_47 : Int32) : Option ((Int32 × ST) ⊕ (Int32 × ST)) := if 10 ≤ x1_47 then Option.map Sum.inr (N_X12_restore_73 f47 g47 a47 0) else gd (inB x1_47 10) (gd (inB x1_47 10) (some (.inl ((x1_47 + 1), f47, g47, (ua a47 3 x1_47.toNatClampNeg (a47 24 x1_47.toNatClampNeg))))))
def N_X12_restore_47 (f47 : Nat → Int32) (g47 : Nat → Int64) (a47 : Nat → Nat → Int32) (x1_47 : Int32) : Option (Int32 × ST) := lpN (fun q47 : (Int32 × ST) => B_X12_restore_47 q47.2.1 q47.2.2.1 q47.2.2.2 q47.1) kFu (x1_47, f47, g47, a47)
def F_X12_restore (f0 : Nat → Int32) (g0 : Nat → Int64) (a0 : Nat → Nat → Int32) : Option (Int32 × ST) := if (f0 19) = 0 then some ((-103), f0, g0, a0) else if (f0 20) = (f0 0) then N_X12_restore_47 (upd (upd (upd f0 6 (f0 21)) 7 ((upd f0 6 (f0 21)) 22)) 8 ((upd (upd f0 6 (f0 21)) 7 ((upd f0 6 (f0 21)) 22)) 23)) g0 a0 0 else some ((-103), f0, g0, a0)
set_option maxHeartbeats 4000000 in
set_option maxRecDepth 100000 in
theorem c_X12_restore (l : Launch) (hz : Nat) (D : va_G) (ad : Nat → Nat) (ck : Nat → ClassId) (f0 : Nat → Int32) (g0 : Nat → Int64) (a0 : Nat → Nat → Int32) (out : (Int32 × ST)) (hF : F_X12_restore f0 g0 a0 = some out) : Met l yX12_restore wsX12_restore ({ frames := 0, cells := 0, slots := 0, locals := 0 }) (kW hz D vwCl (tM ck) (wM ad ck f0 g0 a0) [.ref (ad 0)]) (kQ D vwCl (some (.int out.1)) (wM ad ck f0 g0 a0) (wM ad ck out.2.1 out.2.2.1 out.2.2.2)) 0 0 (kAd (wM ad ck f0 g0 a0)) := by
  refine Met.ofW (cc := cX12_restore) (maxL := 2) (ret := (some .int)) (by decide) rfl ?_
  intro p e s m args below meth c s₁ B hml hv
  obtain ⟨rfl, hP, hE, hD0⟩ := hv
  have hx := B.exec
  have hb := B.bytes
  have hr := B.returns
  have hts := atoms_spec (ws := wsX12_restore) B.pre
  have hown : s.vm.findClass RX12 = some m.cls := findClass_of_methodNamed B.named
  have hlocks := B.notSynchronized
  have hK := hE.1
  have hnA := kAd_up hD0
  have hD := kD_self hD0
  have hS : va_S (kAd (wM ad ck f0 g0 a0)) s.heap s.heap [] := va_S.rf
  have hiX12 : ∀ w ∈ u_ws RX12 TX12 31, w ∈ wsX12_restore := by decide +kernel
  have hf13 := hts (.fieldLink RX12 13 "SpeltByFriendsModel" "holderOf" "[I") (by decide +kernel)
  have hf16 := hts (.fieldLink RX12 16 "SpeltByFriendsModel" "roomOf" "[I") (by decide +kernel)
  have hf19 := hts (.fieldLink RX12 19 "SpeltByFriendsModel" "quarrelsOf" "[I") (by decide +kernel)
  have hf22 := hts (.fieldLink RX12 22 "SpeltByFriendsModel" "heardWho" "[I") (by decide +kernel)
  have hf25 := hts (.fieldLink RX12 25 "SpeltByFriendsModel" "heardIn" "[I") (by decide +kernel)
  have hf28 := hts (.fieldLink RX12 28 "SpeltByFriendsModel" "heardSo" "[I") (by decide +kernel)
  have hf41 := hts (.fieldLink RX12 41 "SpeltByFriendsModel" "keptHolder" "[I") (by decide +kernel)
  have hf44 := hts (.fieldLink RX12 44 "SpeltByFriendsModel" "keptRoom" "[I") (by decide +kernel)
  have hf47 := hts (.fieldLink RX12 47 "SpeltByFriendsModel" "keptQuarrels" "[I") (by decide +kernel)
  have hf50 := hts (.fieldLink RX12 50 "SpeltByFriendsModel" "keptWho" "[I") (by decide +kernel)
  have hf53 := hts (.fieldLink RX12 53 "SpeltByFriendsModel" "keptIn" "[I") (by decide +kernel)
  have hf56 := hts (.fieldLink RX12 56 "SpeltByFriendsModel" "keptSo" "[I") (by decide +kernel)
  have hf86 := hts (.fieldLink RX12 86 "SpeltByFriendsModel" "towns" "I") (by decide +kernel)
  have hf89 := hts (.fieldLink RX12 89 "SpeltByFriendsModel" "went" "I") (by decide +kernel)
  have hf92 := hts (.fieldLink RX12 92 "SpeltByFriendsModel" "sold" "I") (by decide +kernel)
  have hf95 := hts (.fieldLink RX12 95 "SpeltByFriendsModel" "heard" "I") (by decide +kernel)
  have hf200 := hts (.fieldLink RX12 200 "SpeltByFriendsModel" "isKept" "Z") (by decide +kernel)
  have hf204 := hts (.fieldLink RX12 204 "SpeltByFriendsModel" "keptTown" "I") (by decide +kernel)
  have hf207 := hts (.fieldLink RX12 207 "SpeltByFriendsModel" "keptWent" "I") (by decide +kernel)
  have hf210 := hts (.fieldLink RX12 210 "SpeltByFriendsModel" "keptSold" "I") (by decide +kernel)
  have hf213 := hts (.fieldLink RX12 213 "SpeltByFriendsModel" "keptHeard" "I") (by decide +kernel)
  have hN_110 : ∀ (n110 : Nat) (f110 : Nat → Int32) (g110 : Nat → Int64) (a110 : Nat → Nat → Int32) (H : Heap) (locs : List Loc) (x1_110 : Int32) (ls : Array Slot), va_P D vwCl (wM ad ck f110 g110 a110) H → va_D (kAd (wM ad ck f0 g0 a0)) (wM ad ck f110 g110 a110) → va_S (kAd (wM ad ck f0 g0 a0)) s.heap H locs → lv_has ls 2 [(0, .ref (ad 0)), (1, .int x1_110)] → ∀ r : (Int32 × ST), lpN (fun q110 : (Int32 × ST) => B_X12_restore_110 q110.2.1 q110.2.2.1 q110.2.2.2 q110.1) n110 (x1_110, f110, g110, a110) = some r → (fun r => r = out) r → W p l e (headSpec wsX12_restore ({ frames := 0, cells := 0, slots := 0, locals := 0 })).room s m [.ref (ad 0)].toArray below meth c H locs 0 0 (MQ below (kQ D vwCl (some (.int out.1)) (wM ad ck f0 g0 a0) (wM ad ck out.2.1 out.2.2.1 out.2.2.2)) [.ref (ad 0)].toArray s 0 0 (kAd (wM ad ck f0 g0 a0))) (F0 m 110 ls []) := by
    intro n110
    induction n110 with
    | zero => intro f110 g110 a110 H locs x1_110 ls hP hD hS hl r hF hp; exact (lp_z hF).elim
    | succ n110 ih110 =>
      intro f110 g110 a110 H locs x1_110 ls hP hD hS hl r hF hp
      obtain ⟨rs, hF, hp⟩ := lpN_K (P := (fun r => r = out)) hF hp
      unfold B_X12_restore_110 at hF
      refine lv_iload_n hx hb dX12_restore_110 rfl (lv_at hl 1 rfl) ?_
      refine lv_bipush (v := 6) hx hb dX12_restore_111 (by decide) ?_
      refine lv_icmp_ge (tgt := 158) hx hb dX12_restore_113 (by decide) (fun hc5 => ?_) (fun hc5 => ?_)
      · have hF := it_p hc5 hF
        obtain ⟨r, hF1, hr0⟩ := mp_s hF
        clear hF
        subst hr0
        have hF := hF1
        clear hF1
        have hp : (fun r => r = out) r := hp
        refine lv_aload_n hx hb dX12_restore_158 rfl (lv_at hl 0 rfl) ?_
        refine va_get (D := D) (ci := 12) (v := .int (f110 6)) (C := RX12) (T := TX12) (N := 31) hx hb hts hiX12 hown hK hP 0 rfl rfl 6 (by decide) hf89 (fun _ h9 => h9) rfl dX12_restore_159 ?_
        refine lv_aload_n hx hb dX12_restore_162 rfl (lv_at hl 0 rfl) ?_
        refine va_get (D := D) (ci := 12) (v := .int (f110 7)) (C := RX12) (T := TX12) (N := 31) hx hb hts hiX12 hown hK hP 0 rfl rfl 7 (by decide) hf92 (fun _ h9 => h9) rfl dX12_restore_163 ?_
        refine lv_iadd hx hb dX12_restore_166 ?_
        have hF := (Option.some.inj hF).trans hp
        subst hF
        exact W.iret hx hb hr (fun t ht hW => ⟨rfl, by rw [ht]; exact hP, hS.F ht⟩) hS.2.2 dX12_restore_167
      · have hF := it_n hc5 hF
        refine lv_aload_n hx hb dX12_restore_116 rfl (lv_at hl 0 rfl) ?_
        refine va_get (D := D) (ci := 12) (v := .ref (ad 9)) (C := RX12) (T := TX12) (N := 31) hx hb hts hiX12 hown hK hP 0 rfl rfl 9 (by decide) hf22 (fun _ h9 => h9) rfl dX12_restore_117 ?_
        refine lv_iload_n hx hb dX12_restore_120 rfl (lv_at hl 1 rfl) ?_
        refine lv_aload_n hx hb dX12_restore_121 rfl (lv_at hl 0 rfl) ?_
        refine va_get (D := D) (ci := 12) (v := .ref (ad 27)) (C := RX12) (T := TX12) (N := 31) hx hb hts hiX12 hown hK hP 0 rfl rfl 27 (by decide) hf50 (fun _ h9 => h9) rfl dX12_restore_122 ?_
        refine lv_iload_n hx hb dX12_restore_125 rfl (lv_at hl 1 rfl) ?_
        obtain ⟨hg6, hF⟩ := gd_s hF
        refine va_iald hx hb hK hP 14 13 rfl rfl (inB_in hg6) dX12_restore_126 ?_
        obtain ⟨hg7, hF⟩ := gd_s hF
        refine va_iast hx hb hK hP hD hS 5 4 rfl rfl (inB_in hg7) dX12_restore_127 (fun H locs hP hD hS => ?_)
        have hP := kPe (eu_wM9 ad ck f110 g110 a110 x1_110.toNatClampNeg (a110 27 x1_110.toNatClampNeg)) hP
        have hD := kDe (eu_wM9 ad ck f110 g110 a110 x1_110.toNatClampNeg (a110 27 x1_110.toNatClampNeg)) hD
        refine lv_aload_n hx hb dX12_restore_128 rfl (lv_at hl 0 rfl) ?_
        refine va_get (D := D) (ci := 12) (v := .ref (ad 10)) (C := RX12) (T := TX12) (N := 31) hx hb hts hiX12 hown hK hP 0 rfl rfl 10 (by decide) hf25 (fun _ h9 => h9) rfl dX12_restore_129 ?_
        refine lv_iload_n hx hb dX12_restore_132 rfl (lv_at hl 1 rfl) ?_
        refine lv_aload_n hx hb dX12_restore_133 rfl (lv_at hl 0 rfl) ?_
        refine va_get (D := D) (ci := 12) (v := .ref (ad 28)) (C := RX12) (T := TX12) (N := 31) hx hb hts hiX12 hown hK hP 0 rfl rfl 28 (by decide) hf53 (fun _ h9 => h9) rfl dX12_restore_134 ?_
        refine lv_iload_n hx hb dX12_restore_137 rfl (lv_at hl 1 rfl) ?_
        obtain ⟨hg8, hF⟩ := gd_s hF
        refine va_iald hx hb hK hP 15 14 rfl rfl (inB_in hg8) dX12_restore_138 ?_
        obtain ⟨hg9, hF⟩ := gd_s hF
        refine va_iast hx hb hK hP hD hS 6 5 rfl rfl (inB_in hg9) dX12_restore_139 (fun H locs hP hD hS => ?_)
        have hP := kPe (eu_wM10 ad ck f110 g110 (ua a110 9 x1_110.toNatClampNeg (a110 27 x1_110.toNatClampNeg)) x1_110.toNatClampNeg ((ua a110 9 x1_110.toNatClampNeg (a110 27 x1_110.toNatClampNeg)) 28 x1_110.toNatClampNeg)) hP
        have hD := kDe (eu_wM10 ad ck f110 g110 (ua a110 9 x1_110.toNatClampNeg (a110 27 x1_110.toNatClampNeg)) x1_110.toNatClampNeg ((ua a110 9 x1_110.toNatClampNeg (a110 27 x1_110.toNatClampNeg)) 28 x1_110.toNatClampNeg)) hD
        refine lv_aload_n hx hb dX12_restore_140 rfl (lv_at hl 0 rfl) ?_
        refine va_get (D := D) (ci := 12) (v := .ref (ad 11)) (C := RX12) (T := TX12) (N := 31) hx hb hts hiX12 hown hK hP 0 rfl rfl 11 (by decide) hf28 (fun _ h9 => h9) rfl dX12_restore_141 ?_
        refine lv_iload_n hx hb dX12_restore_144 rfl (lv_at hl 1 rfl) ?_
        refine lv_aload_n hx hb dX12_restore_145 rfl (lv_at hl 0 rfl) ?_
        refine va_get (D := D) (ci := 12) (v := .ref (ad 29)) (C := RX12) (T := TX12) (N := 31) hx hb hts hiX12 hown hK hP 0 rfl rfl 29 (by decide) hf56 (fun _ h9 => h9) rfl dX12_restore_146 ?_
        refine lv_iload_n hx hb dX12_restore_149 rfl (lv_at hl 1 rfl) ?_
        obtain ⟨hg10, hF⟩ := gd_s hF
        refine va_iald hx hb hK hP 16 15 rfl rfl (inB_in hg10) dX12_restore_150 ?_
        obtain ⟨hg11, hF⟩ := gd_s hF
        refine va_iast hx hb hK hP hD hS 7 6 rfl rfl (inB_in hg11) dX12_restore_151 (fun H locs hP hD hS => ?_)
        have hP := kPe (eu_wM11 ad ck f110 g110 (ua (ua a110 9 x1_110.toNatClampNeg (a110 27 x1_110.toNatClampNeg)) 10 x1_110.toNatClampNeg ((ua a110 9 x1_110.toNatClampNeg (a110 27 x1_110.toNatClampNeg)) 28 x1_110.toNatClampNeg)) x1_110.toNatClampNeg ((ua (ua a110 9 x1_110.toNatClampNeg (a110 27 x1_110.toNatClampNeg)) 10 x1_110.toNatClampNeg ((ua a110 9 x1_110.toNatClampNeg (a110 27 x1_110.toNatClampNeg)) 28 x1_110.toNatClampNeg)) 29 x1_110.toNatClampNeg)) hP
        have hD := kDe (eu_wM11 ad ck f110 g110 (ua (ua a110 9 x1_110.toNatClampNeg (a110 27 x1_110.toNatClampNeg)) 10 x1_110.toNatClampNeg ((ua a110 9 x1_110.toNatClampNeg (a110 27 x1_110.toNatClampNeg)) 28 x1_110.toNatClampNeg)) x1_110.toNatClampNeg ((ua (ua a110 9 x1_110.toNatClampNeg (a110 27 x1_110.toNatClampNeg)) 10 x1_110.toNatClampNeg ((ua a110 9 x1_110.toNatClampNeg (a110 27 x1_110.toNatClampNeg)) 28 x1_110.toNatClampNeg)) 29 x1_110.toNatClampNeg)) hD
        refine lv_iinc (v := (x1_110 + 1)) (lv' := [(1, .int (x1_110 + 1)), (0, .ref (ad 0))]) hx hb dX12_restore_152 hl (k := 1) rfl rfl (by decide) rfl (fun ls hl => ?_)
        refine lv_goto (tgt := 110) hx hb dX12_restore_155 (by decide) ?_
        have hF := Option.some.inj hF
        subst hF
        obtain ⟨r, hF, hp⟩ := hp
        exact ih110 f110 g110 (ua (ua (ua a110 9 x1_110.toNatClampNeg (a110 27 x1_110.toNatClampNeg)) 10 x1_110.toNatClampNeg ((ua a110 9 x1_110.toNatClampNeg (a110 27 x1_110.toNatClampNeg)) 28 x1_110.toNatClampNeg)) 11 x1_110.toNatClampNeg ((ua (ua a110 9 x1_110.toNatClampNeg (a110 27 x1_110.toNatClampNeg)) 10 x1_110.toNatClampNeg ((ua a110 9 x1_110.toNatClampNeg (a110 27 x1_110.toNatClampNeg)) 28 x1_110.toNatClampNeg)) 29 x1_110.toNatClampNeg)) _ _ (x1_110 + 1) ls hP hD hS (lv_sub hl [1, 0] rfl) r hF hp
  have hN_73 : ∀ (n73 : Nat) (f73 : Nat → Int32) (g73 : Nat → Int64) (a73 : Nat → Nat → Int32) (H : Heap) (locs : List Loc) (x1_73 : Int32) (ls : Array Slot), va_P D vwCl (wM ad ck f73 g73 a73) H → va_D (kAd (wM ad ck f0 g0 a0)) (wM ad ck f73 g73 a73) → va_S (kAd (wM ad ck f0 g0 a0)) s.heap H locs → lv_has ls 2 [(0, .ref (ad 0)), (1, .int x1_73)] → ∀ r : (Int32 × ST), lpN (fun q73 : (Int32 × ST) => B_X12_restore_73 q73.2.1 q73.2.2.1 q73.2.2.2 q73.1) n73 (x1_73, f73, g73, a73) = some r → (fun r => r = out) r → W p l e (headSpec wsX12_restore ({ frames := 0, cells := 0, slots := 0, locals := 0 })).room s m [.ref (ad 0)].toArray below meth c H locs 0 0 (MQ below (kQ D vwCl (some (.int out.1)) (wM ad ck f0 g0 a0) (wM ad ck out.2.1 out.2.2.1 out.2.2.2)) [.ref (ad 0)].toArray s 0 0 (kAd (wM ad ck f0 g0 a0))) (F0 m 73 ls []) := by
    intro n73
    induction n73 with
    | zero => intro f73 g73 a73 H locs x1_73 ls hP hD hS hl r hF hp; exact (lp_z hF).elim
    | succ n73 ih73 =>
      intro f73 g73 a73 H locs x1_73 ls hP hD hS hl r hF hp
      obtain ⟨rs, hF, hp⟩ := lpN_K (P := (fun r => r = out)) hF hp
      unfold B_X12_restore_73 at hF
      refine lv_iload_n hx hb dX12_restore_73 rfl (lv_at hl 1 rfl) ?_
      refine lv_iconst (v := 5) hx hb dX12_restore_74 (by decide) ?_
      refine lv_icmp_ge (tgt := 108) hx hb dX12_restore_75 (by decide) (fun hc4 => ?_) (fun hc4 => ?_)
      · have hF := it_p hc4 hF
        obtain ⟨r, hF1, hr0⟩ := mp_s hF
        clear hF
        subst hr0
        have hF := hF1
        clear hF1
        have hp : (fun r => r = out) r := hp
        refine lv_iconst (v := 0) hx hb dX12_restore_108 (by decide) ?_
        refine lv_istore_n (lv' := [(1, .int 0), (0, .ref (ad 0))]) hx hb dX12_restore_109 rfl hl (by decide) rfl (fun ls hl => ?_)
        exact hN_110 kFu f73 g73 a73 _ _ 0 ls hP hD hS (lv_sub hl [1, 0] rfl) _ hF hp
      · have hF := it_n hc4 hF
        refine lv_aload_n hx hb dX12_restore_78 rfl (lv_at hl 0 rfl) ?_
        refine va_get (D := D) (ci := 12) (v := .ref (ad 4)) (C := RX12) (T := TX12) (N := 31) hx hb hts hiX12 hown hK hP 0 rfl rfl 4 (by decide) hf16 (fun _ h9 => h9) rfl dX12_restore_79 ?_
        refine lv_iload_n hx hb dX12_restore_82 rfl (lv_at hl 1 rfl) ?_
        refine lv_aload_n hx hb dX12_restore_83 rfl (lv_at hl 0 rfl) ?_
        refine va_get (D := D) (ci := 12) (v := .ref (ad 25)) (C := RX12) (T := TX12) (N := 31) hx hb hts hiX12 hown hK hP 0 rfl rfl 25 (by decide) hf44 (fun _ h9 => h9) rfl dX12_restore_84 ?_
        refine lv_iload_n hx hb dX12_restore_87 rfl (lv_at hl 1 rfl) ?_
        obtain ⟨hg12, hF⟩ := gd_s hF
        refine va_iald hx hb hK hP 12 11 rfl rfl (inB_in hg12) dX12_restore_88 ?_
        obtain ⟨hg13, hF⟩ := gd_s hF
        refine va_iast hx hb hK hP hD hS 3 2 rfl rfl (inB_in hg13) dX12_restore_89 (fun H locs hP hD hS => ?_)
        have hP := kPe (eu_wM4 ad ck f73 g73 a73 x1_73.toNatClampNeg (a73 25 x1_73.toNatClampNeg)) hP
        have hD := kDe (eu_wM4 ad ck f73 g73 a73 x1_73.toNatClampNeg (a73 25 x1_73.toNatClampNeg)) hD
        refine lv_aload_n hx hb dX12_restore_90 rfl (lv_at hl 0 rfl) ?_
        refine va_get (D := D) (ci := 12) (v := .ref (ad 5)) (C := RX12) (T := TX12) (N := 31) hx hb hts hiX12 hown hK hP 0 rfl rfl 5 (by decide) hf19 (fun _ h9 => h9) rfl dX12_restore_91 ?_
        refine lv_iload_n hx hb dX12_restore_94 rfl (lv_at hl 1 rfl) ?_
        refine lv_aload_n hx hb dX12_restore_95 rfl (lv_at hl 0 rfl) ?_
        refine va_get (D := D) (ci := 12) (v := .ref (ad 26)) (C := RX12) (T := TX12) (N := 31) hx hb hts hiX12 hown hK hP 0 rfl rfl 26 (by decide) hf47 (fun _ h9 => h9) rfl dX12_restore_96 ?_
        refine lv_iload_n hx hb dX12_restore_99 rfl (lv_at hl 1 rfl) ?_
        obtain ⟨hg14, hF⟩ := gd_s hF
        refine va_iald hx hb hK hP 13 12 rfl rfl (inB_in hg14) dX12_restore_100 ?_
        obtain ⟨hg15, hF⟩ := gd_s hF
        refine va_iast hx hb hK hP hD hS 4 3 rfl rfl (inB_in hg15) dX12_restore_101 (fun H locs hP hD hS => ?_)
        have hP := kPe (eu_wM5 ad ck f73 g73 (ua a73 4 x1_73.toNatClampNeg (a73 25 x1_73.toNatClampNeg)) x1_73.toNatClampNeg ((ua a73 4 x1_73.toNatClampNeg (a73 25 x1_73.toNatClampNeg)) 26 x1_73.toNatClampNeg)) hP
        have hD := kDe (eu_wM5 ad ck f73 g73 (ua a73 4 x1_73.toNatClampNeg (a73 25 x1_73.toNatClampNeg)) x1_73.toNatClampNeg ((ua a73 4 x1_73.toNatClampNeg (a73 25 x1_73.toNatClampNeg)) 26 x1_73.toNatClampNeg)) hD
        refine lv_iinc (v := (x1_73 + 1)) (lv' := [(1, .int (x1_73 + 1)), (0, .ref (ad 0))]) hx hb dX12_restore_102 hl (k := 1) rfl rfl (by decide) rfl (fun ls hl => ?_)
        refine lv_goto (tgt := 73) hx hb dX12_restore_105 (by decide) ?_
        have hF := Option.some.inj hF
        subst hF
        obtain ⟨r, hF, hp⟩ := hp
        exact ih73 f73 g73 (ua (ua a73 4 x1_73.toNatClampNeg (a73 25 x1_73.toNatClampNeg)) 5 x1_73.toNatClampNeg ((ua a73 4 x1_73.toNatClampNeg (a73 25 x1_73.toNatClampNeg)) 26 x1_73.toNatClampNeg)) _ _ (x1_73 + 1) ls hP hD hS (lv_sub hl [1, 0] rfl) r hF hp
  have hN_47 : ∀ (n47 : Nat) (f47 : Nat → Int32) (g47 : Nat → Int64) (a47 : Nat → Nat → Int32) (H : Heap) (locs : List Loc) (x1_47 : Int32) (ls : Array Slot), va_P D vwCl (wM ad ck f47 g47 a47) H → va_D (kAd (wM ad ck f0 g0 a0)) (wM ad ck f47 g47 a47) → va_S (kAd (wM ad ck f0 g0 a0)) s.heap H locs → lv_has ls 2 [(0, .ref (ad 0)), (1, .int x1_47)] → ∀ r : (Int32 × ST), lpN (fun q47 : (Int32 × ST) => B_X12_restore_47 q47.2.1 q47.2.2.1 q47.2.2.2 q47.1) n47 (x1_47, f47, g47, a47) = some r → (fun r => r = out) r → W p l e (headSpec wsX12_restore ({ frames := 0, cells := 0, slots := 0, locals := 0 })).room s m [.ref (ad 0)].toArray below meth c H locs 0 0 (MQ below (kQ D vwCl (some (.int out.1)) (wM ad ck f0 g0 a0) (wM ad ck out.2.1 out.2.2.1 out.2.2.2)) [.ref (ad 0)].toArray s 0 0 (kAd (wM ad ck f0 g0 a0))) (F0 m 47 ls []) := by
    intro n47
    induction n47 with
    | zero => intro f47 g47 a47 H locs x1_47 ls hP hD hS hl r hF hp; exact (lp_z hF).elim
    | succ n47 ih47 =>
      intro f47 g47 a47 H locs x1_47 ls hP hD hS hl r hF hp
      obtain ⟨rs, hF, hp⟩ := lpN_K (P := (fun r => r = out)) hF hp
      unfold B_X12_restore_47 at hF
      refine lv_iload_n hx hb dX12_restore_47 rfl (lv_at hl 1 rfl) ?_
      refine lv_bipush (v := 10) hx hb dX12_restore_48 (by decide) ?_
      refine lv_icmp_ge (tgt := 71) hx hb dX12_restore_50 (by decide) (fun hc3 => ?_) (fun hc3 => ?_)
      · have hF := it_p hc3 hF
        obtain ⟨r, hF1, hr0⟩ := mp_s hF
        clear hF
        subst hr0
        have hF := hF1
        clear hF1
        have hp : (fun r => r = out) r := hp
        refine lv_iconst (v := 0) hx hb dX12_restore_71 (by decide) ?_
        refine lv_istore_n (lv' := [(1, .int 0), (0, .ref (ad 0))]) hx hb dX12_restore_72 rfl hl (by decide) rfl (fun ls hl => ?_)
        exact hN_73 kFu f47 g47 a47 _ _ 0 ls hP hD hS (lv_sub hl [1, 0] rfl) _ hF hp
      · have hF := it_n hc3 hF
        refine lv_aload_n hx hb dX12_restore_53 rfl (lv_at hl 0 rfl) ?_
        refine va_get (D := D) (ci := 12) (v := .ref (ad 3)) (C := RX12) (T := TX12) (N := 31) hx hb hts hiX12 hown hK hP 0 rfl rfl 3 (by decide) hf13 (fun _ h9 => h9) rfl dX12_restore_54 ?_
        refine lv_iload_n hx hb dX12_restore_57 rfl (lv_at hl 1 rfl) ?_
        refine lv_aload_n hx hb dX12_restore_58 rfl (lv_at hl 0 rfl) ?_
        refine va_get (D := D) (ci := 12) (v := .ref (ad 24)) (C := RX12) (T := TX12) (N := 31) hx hb hts hiX12 hown hK hP 0 rfl rfl 24 (by decide) hf41 (fun _ h9 => h9) rfl dX12_restore_59 ?_
        refine lv_iload_n hx hb dX12_restore_62 rfl (lv_at hl 1 rfl) ?_
        obtain ⟨hg16, hF⟩ := gd_s hF
        refine va_iald hx hb hK hP 11 10 rfl rfl (inB_in hg16) dX12_restore_63 ?_
        obtain ⟨hg17, hF⟩ := gd_s hF
        refine va_iast hx hb hK hP hD hS 2 1 rfl rfl (inB_in hg17) dX12_restore_64 (fun H locs hP hD hS => ?_)
        have hP := kPe (eu_wM3 ad ck f47 g47 a47 x1_47.toNatClampNeg (a47 24 x1_47.toNatClampNeg)) hP
        have hD := kDe (eu_wM3 ad ck f47 g47 a47 x1_47.toNatClampNeg (a47 24 x1_47.toNatClampNeg)) hD
        refine lv_iinc (v := (x1_47 + 1)) (lv' := [(1, .int (x1_47 + 1)), (0, .ref (ad 0))]) hx hb dX12_restore_65 hl (k := 1) rfl rfl (by decide) rfl (fun ls hl => ?_)
        refine lv_goto (tgt := 47) hx hb dX12_restore_68 (by decide) ?_
        have hF := Option.some.inj hF
        subst hF
        obtain ⟨r, hF, hp⟩ := hp
        exact ih47 f47 g47 (ua a47 3 x1_47.toNatClampNeg (a47 24 x1_47.toNatClampNeg)) _ _ (x1_47 + 1) ls hP hD hS (lv_sub hl [1, 0] rfl) r hF hp
  have hl := lv_entry ([.ref (ad 0)]) (n := 2) (Nat.le_of_ble_eq_true rfl)
  rw [lg_entry_eq]
  generalize (lg_sl ([.ref (ad 0)]) ++ List.replicate (2 - (lg_sl ([.ref (ad 0)])).length) Slot.unset).toArray = ls at hl ⊢
  have hl : lv_has ls 2 [(0, .ref (ad 0))] := hl
  obtain ⟨r, hF, hp⟩ : ∃ r, F_X12_restore f0 g0 a0 = some r ∧ r = out := ⟨out, hF, rfl⟩
  unfold F_X12_restore at hF
  refine lv_aload_n hx hb dX12_restore_0 rfl (lv_at hl 0 rfl) ?_
  refine va_get (D := D) (ci := 12) (v := .int (f0 19)) (C := RX12) (T := TX12) (N := 31) hx hb hts hiX12 hown hK hP 0 rfl rfl 19 (by decide) hf200 (fun _ h9 => h9) rfl dX12_restore_1 ?_
  refine lv_if_eq (tgt := 18) hx hb dX12_restore_4 (by decide) (fun hc1 => ?_) (fun hc1 => ?_)
  · have hF := it_p hc1 hF
    refine lv_bipush (v := (-103)) hx hb dX12_restore_18 (by decide) ?_
    have hF := (Option.some.inj hF).trans hp
    subst hF
    exact W.iret hx hb hr (fun t ht hW => ⟨rfl, by rw [ht]; exact hP, hS.F ht⟩) hS.2.2 dX12_restore_20
  · have hF := it_n hc1 hF
    refine lv_aload_n hx hb dX12_restore_7 rfl (lv_at hl 0 rfl) ?_
    refine va_get (D := D) (ci := 12) (v := .int (f0 20)) (C := RX12) (T := TX12) (N := 31) hx hb hts hiX12 hown hK hP 0 rfl rfl 20 (by decide) hf204 (fun _ h9 => h9) rfl dX12_restore_8 ?_
    refine lv_aload_n hx hb dX12_restore_11 rfl (lv_at hl 0 rfl) ?_
    refine va_get (D := D) (ci := 12) (v := .int (f0 0)) (C := RX12) (T := TX12) (N := 31) hx hb hts hiX12 hown hK hP 0 rfl rfl 0 (by decide) hf86 (fun _ h9 => h9) rfl dX12_restore_12 ?_
    refine lv_icmp_eq (tgt := 21) hx hb dX12_restore_15 (by decide) (fun hc2 => ?_) (fun hc2 => ?_)
    · have hF := it_p hc2 hF
      refine lv_aload_n hx hb dX12_restore_21 rfl (lv_at hl 0 rfl) ?_
      refine lv_aload_n hx hb dX12_restore_22 rfl (lv_at hl 0 rfl) ?_
      refine va_get (D := D) (ci := 12) (v := .int (f0 21)) (C := RX12) (T := TX12) (N := 31) hx hb hts hiX12 hown hK hP 0 rfl rfl 21 (by decide) hf207 (fun _ h9 => h9) rfl dX12_restore_23 ?_
      refine va_put (D := D) (ci := 12) (v := .int (f0 21)) (ty := .int) (C := RX12) (T := TX12) (N := 31) hx hb hts hiX12 tyX12 tyX12_ok nmX12 hown hK hP hD hS 0 rfl rfl 6 (by decide) hf89 (fun _ h9 => h9) rfl (tyX12_ok 6 (by decide)) rfl rfl (Nat.le_of_ble_eq_true rfl) dX12_restore_26 (fun H locs hP hD hS => ?_)
      have hP := kPe (ef_wM0_6 ad ck f0 g0 a0 (f0 21)) hP
      have hD := kDe (ef_wM0_6 ad ck f0 g0 a0 (f0 21)) hD
      refine lv_aload_n hx hb dX12_restore_29 rfl (lv_at hl 0 rfl) ?_
      refine lv_aload_n hx hb dX12_restore_30 rfl (lv_at hl 0 rfl) ?_
      refine va_get (D := D) (ci := 12) (v := .int ((upd f0 6 (f0 21)) 22)) (C := RX12) (T := TX12) (N := 31) hx hb hts hiX12 hown hK hP 0 rfl rfl 22 (by decide) hf210 (fun _ h9 => h9) rfl dX12_restore_31 ?_
      refine va_put (D := D) (ci := 12) (v := .int ((upd f0 6 (f0 21)) 22)) (ty := .int) (C := RX12) (T := TX12) (N := 31) hx hb hts hiX12 tyX12 tyX12_ok nmX12 hown hK hP hD hS 0 rfl rfl 7 (by decide) hf92 (fun _ h9 => h9) rfl (tyX12_ok 7 (by decide)) rfl rfl (Nat.le_of_ble_eq_true rfl) dX12_restore_34 (fun H locs hP hD hS => ?_)
      have hP := kPe (ef_wM0_7 ad ck (upd f0 6 (f0 21)) g0 a0 ((upd f0 6 (f0 21)) 22)) hP
      have hD := kDe (ef_wM0_7 ad ck (upd f0 6 (f0 21)) g0 a0 ((upd f0 6 (f0 21)) 22)) hD
      refine lv_aload_n hx hb dX12_restore_37 rfl (lv_at hl 0 rfl) ?_
      refine lv_aload_n hx hb dX12_restore_38 rfl (lv_at hl 0 rfl) ?_
      refine va_get (D := D) (ci := 12) (v := .int ((upd (upd f0 6 (f0 21)) 7 ((upd f0 6 (f0 21)) 22)) 23)) (C := RX12) (T := TX12) (N := 31) hx hb hts hiX12 hown hK hP 0 rfl rfl 23 (by decide) hf213 (fun _ h9 => h9) rfl dX12_restore_39 ?_
      refine va_put (D := D) (ci := 12) (v := .int ((upd (upd f0 6 (f0 21)) 7 ((upd f0 6 (f0 21)) 22)) 23)) (ty := .int) (C := RX12) (T := TX12) (N := 31) hx hb hts hiX12 tyX12 tyX12_ok nmX12 hown hK hP hD hS 0 rfl rfl 8 (by decide) hf95 (fun _ h9 => h9) rfl (tyX12_ok 8 (by decide)) rfl rfl (Nat.le_of_ble_eq_true rfl) dX12_restore_42 (fun H locs hP hD hS => ?_)
      have hP := kPe (ef_wM0_8 ad ck (upd (upd f0 6 (f0 21)) 7 ((upd f0 6 (f0 21)) 22)) g0 a0 ((upd (upd f0 6 (f0 21)) 7 ((upd f0 6 (f0 21)) 22)) 23)) hP
      have hD := kDe (ef_wM0_8 ad ck (upd (upd f0 6 (f0 21)) 7 ((upd f0 6 (f0 21)) 22)) g0 a0 ((upd (upd f0 6 (f0 21)) 7 ((upd f0 6 (f0 21)) 22)) 23)) hD
      refine lv_iconst (v := 0) hx hb dX12_restore_45 (by decide) ?_
      refine lv_istore_n (lv' := [(1, .int 0), (0, .ref (ad 0))]) hx hb dX12_restore_46 rfl hl (by decide) rfl (fun ls hl => ?_)
      exact hN_47 kFu (upd (upd (upd f0 6 (f0 21)) 7 ((upd f0 6 (f0 21)) 22)) 8 ((upd (upd f0 6 (f0 21)) 7 ((upd f0 6 (f0 21)) 22)) 23)) g0 a0 _ _ 0 ls hP hD hS (lv_sub hl [1, 0] rfl) _ hF hp
    · have hF := it_n hc2 hF
      refine lv_bipush (v := (-103)) hx hb dX12_restore_18 (by decide) ?_
      have hF := (Option.some.inj hF).trans hp
      subst hF
      exact W.iret hx hb hr (fun t ht hW => ⟨rfl, by rw [ht]; exact hP, hS.F ht⟩) hS.2.2 dX12_restore_20

def B_X12_pairs_4 (f0 : Nat → Int32) (g0 : Nat → Int64) (a0 : Nat → Nat → Int32) (x1_4 : Int32) (x2_4 : Int32) : Option ((Int32 × Int32) ⊕ Int32) := if (f0 1) ≤ x2_4 then Option.map Sum.inr (some (x1_4 / 2)) else gd (inB x2_4 5) ((F_X12_size (a0 5 x2_4.toNatClampNeg)).bind fun r3 => some (.inl ((x1_4 + r3), (x2_4 + 1))))
def N_X12_pairs_4 (f0 : Nat → Int32) (g0 : Nat → Int64) (a0 : Nat → Nat → Int32) (x1_4 : Int32) (x2_4 : Int32) : Option Int32 := lpN (fun q4 : (Int32 × Int32) => B_X12_pairs_4 f0 g0 a0 q4.1 q4.2) kFu (x1_4, x2_4)
def F_X12_pairs (f0 : Nat → Int32) (g0 : Nat → Int64) (a0 : Nat → Nat → Int32) : Option Int32 := N_X12_pairs_4 f0 g0 a0 0 0
set_option maxHeartbeats 4000000 in
set_option maxRecDepth 100000 in
theorem c_X12_pairs (l : Launch) (hz : Nat) (D : va_G) (ad : Nat → Nat) (ck : Nat → ClassId) (f0 : Nat → Int32) (g0 : Nat → Int64) (a0 : Nat → Nat → Int32) (out : Int32) (hF : F_X12_pairs f0 g0 a0 = some out) : Met l yX12_pairs wsX12_pairs ({ frames := 1, cells := 0, slots := 0, locals := 22 }) (kR hz D vwCl (tM ck) (wM ad ck f0 g0 a0) [.ref (ad 0)]) (kZi out) 0 0 (fun _ => False) := by
  refine Met.ofW (cc := cX12_pairs) (maxL := 3) (ret := (some .int)) (by decide) rfl ?_
  intro p e s m args below meth c s₁ B hml hv
  obtain ⟨rfl, hP, hE⟩ := hv
  have hx := B.exec
  have hb := B.bytes
  have hr := B.returns
  have hts := atoms_spec (ws := wsX12_pairs) B.pre
  have hown : s.vm.findClass RX12 = some m.cls := findClass_of_methodNamed B.named
  have hlocks := B.notSynchronized
  have hK := hE.1
  have hiX12 : ∀ w ∈ u_ws RX12 TX12 31, w ∈ wsX12_pairs := by decide +kernel
  have hf19 := hts (.fieldLink RX12 19 "SpeltByFriendsModel" "quarrelsOf" "[I") (by decide +kernel)
  have hf83 := hts (.fieldLink RX12 83 "SpeltByFriendsModel" "people" "I") (by decide +kernel)
  have hN_4 : ∀ (n4 : Nat) (x1_4 : Int32) (x2_4 : Int32) (ls : Array Slot), lv_has ls 3 [(0, .ref (ad 0)), (1, .int x1_4), (2, .int x2_4)] → ∀ r : Int32, lpN (fun q4 : (Int32 × Int32) => B_X12_pairs_4 f0 g0 a0 q4.1 q4.2) n4 (x1_4, x2_4) = some r → (fun r => r = out) r → W p l e (headSpec wsX12_pairs ({ frames := 1, cells := 0, slots := 0, locals := 22 })).room s m [.ref (ad 0)].toArray below meth c s.heap [] 0 0 (MQ below (kZi out) [.ref (ad 0)].toArray s 0 0 (fun _ => False)) (F0 m 4 ls []) := by
    intro n4
    induction n4 with
    | zero => intro x1_4 x2_4 ls hl r hF hp; exact (lp_z hF).elim
    | succ n4 ih4 =>
      intro x1_4 x2_4 ls hl r hF hp
      obtain ⟨rs, hF, hp⟩ := lpN_K (P := (fun r => r = out)) hF hp
      unfold B_X12_pairs_4 at hF
      refine lv_iload_n hx hb dX12_pairs_4 rfl (lv_at hl 2 rfl) ?_
      refine lv_aload_n hx hb dX12_pairs_5 rfl (lv_at hl 0 rfl) ?_
      refine va_get (D := D) (ci := 12) (v := .int (f0 1)) (C := RX12) (T := TX12) (N := 31) hx hb hts hiX12 hown hK hP 0 rfl rfl 1 (by decide) hf83 (fun _ h9 => h9) rfl dX12_pairs_6 ?_
      refine lv_icmp_ge (tgt := 30) hx hb dX12_pairs_9 (by decide) (fun hc1 => ?_) (fun hc1 => ?_)
      · have hF := it_p hc1 hF
        obtain ⟨r, hF1, hr0⟩ := mp_s hF
        clear hF
        subst hr0
        have hF := hF1
        clear hF1
        have hp : (fun r => r = out) r := hp
        refine lv_iload_n hx hb dX12_pairs_30 rfl (lv_at hl 1 rfl) ?_
        refine lv_iconst (v := 2) hx hb dX12_pairs_31 (by decide) ?_
        refine lv_idiv hx hb dX12_pairs_32 (by decide) ?_
        exact W.iret hx hb hr (fun t ht hW => ⟨_, rfl, (Option.some.inj hF).trans hp, ht⟩) (fun q hq => by cases hq) dX12_pairs_33
      · have hF := it_n hc1 hF
        refine lv_iload_n hx hb dX12_pairs_12 rfl (lv_at hl 1 rfl) ?_
        refine lv_aload_n hx hb dX12_pairs_13 rfl (lv_at hl 0 rfl) ?_
        refine va_get (D := D) (ci := 12) (v := .ref (ad 5)) (C := RX12) (T := TX12) (N := 31) hx hb hts hiX12 hown hK hP 0 rfl rfl 5 (by decide) hf19 (fun _ h9 => h9) rfl dX12_pairs_14 ?_
        refine lv_iload_n hx hb dX12_pairs_17 rfl (lv_at hl 2 rfl) ?_
        obtain ⟨hg2, hF⟩ := gd_s hF
        refine va_iald hx hb hK hP 4 3 rfl rfl (inB_in hg2) dX12_pairs_18 ?_
        obtain ⟨r3, he3, hF⟩ := bd_s hF
        refine kS_i (va_runS (As := [.int (a0 5 x2_4.toNatClampNeg)]) (rest := [.int x1_4]) ⟨hx, hb, hml, hown, hts⟩ (c_X12_size l hz D (tM ck) (a0 5 x2_4.toNatClampNeg) r3 he3) (va_cwS 1 hts gX12_pairs_X12_size rfl rfl rfl pX12_size ⟨Nat.le_of_ble_eq_true rfl, Nat.le_of_ble_eq_true rfl⟩) (kR.preS kP_nil hE) rfl rfl hl.1 rfl (lv_room (Nat.le_of_ble_eq_true rfl)) dX12_pairs_19 ⟨Nat.le_refl _, Nat.le_refl _⟩) ?_
        refine lv_iadd hx hb dX12_pairs_22 ?_
        refine lv_istore_n (lv' := [(1, .int (x1_4 + r3)), (0, .ref (ad 0)), (2, .int x2_4)]) hx hb dX12_pairs_23 rfl hl (by decide) rfl (fun ls hl => ?_)
        refine lv_iinc (v := (x2_4 + 1)) (lv' := [(2, .int (x2_4 + 1)), (1, .int (x1_4 + r3)), (0, .ref (ad 0))]) hx hb dX12_pairs_24 hl (k := 2) rfl rfl (by decide) rfl (fun ls hl => ?_)
        refine lv_goto (tgt := 4) hx hb dX12_pairs_27 (by decide) ?_
        have hF := Option.some.inj hF
        subst hF
        obtain ⟨r, hF, hp⟩ := hp
        exact ih4 (x1_4 + r3) (x2_4 + 1) ls (lv_sub hl [2, 1, 0] rfl) r hF hp
  have hl := lv_entry ([.ref (ad 0)]) (n := 3) (Nat.le_of_ble_eq_true rfl)
  rw [lg_entry_eq]
  generalize (lg_sl ([.ref (ad 0)]) ++ List.replicate (3 - (lg_sl ([.ref (ad 0)])).length) Slot.unset).toArray = ls at hl ⊢
  have hl : lv_has ls 3 [(0, .ref (ad 0))] := hl
  obtain ⟨r, hF, hp⟩ : ∃ r, F_X12_pairs f0 g0 a0 = some r ∧ r = out := ⟨out, hF, rfl⟩
  unfold F_X12_pairs at hF
  refine lv_iconst (v := 0) hx hb dX12_pairs_0 (by decide) ?_
  refine lv_istore_n (lv' := [(1, .int 0), (0, .ref (ad 0))]) hx hb dX12_pairs_1 rfl hl (by decide) rfl (fun ls hl => ?_)
  refine lv_iconst (v := 0) hx hb dX12_pairs_2 (by decide) ?_
  refine lv_istore_n (lv' := [(2, .int 0), (1, .int 0), (0, .ref (ad 0))]) hx hb dX12_pairs_3 rfl hl (by decide) rfl (fun ls hl => ?_)
  exact hN_4 kFu 0 0 ls (lv_sub hl [2, 1, 0] rfl) _ hF hp

def F_X12_howMany (f0 : Nat → Int32) (g0 : Nat → Int64) (a0 : Nat → Nat → Int32) (p1 : Int32) : Option Int32 := if p1 = 0 then some (f0 1) else (if p1 = 1 then (F_X12_writtenAll f0 g0 a0).bind fun r3 => some r3 else (if p1 = 2 then (F_X12_pairs f0 g0 a0).bind fun r5 => some r5 else (if p1 = 3 then some (f0 6) else (if p1 = 4 then some (f0 7) else (if p1 = 5 then some (f0 8) else (if p1 = 6 then some (f0 14) else (if p1 = 7 then some (f0 0) else (if p1 = 8 then some (f0 12) else (if p1 = 9 then some (f0 13) else (some (-102)))))))))))
set_option maxHeartbeats 4000000 in
set_option maxRecDepth 100000 in
theorem c_X12_howMany (l : Launch) (hz : Nat) (D : va_G) (ad : Nat → Nat) (ck : Nat → ClassId) (f0 : Nat → Int32) (g0 : Nat → Int64) (a0 : Nat → Nat → Int32) (p1 : Int32) (out : Int32) (hF : F_X12_howMany f0 g0 a0 p1 = some out) : Met l yX12_howMany wsX12_howMany ({ frames := 6, cells := 0, slots := 0, locals := 135 }) (kR hz D vwCl (tM ck) (wM ad ck f0 g0 a0) [.ref (ad 0), .int p1]) (kZi out) 0 0 (fun _ => False) := by
  refine Met.ofW (cc := cX12_howMany) (maxL := 2) (ret := (some .int)) (by decide) rfl ?_
  intro p e s m args below meth c s₁ B hml hv
  obtain ⟨rfl, hP, hE⟩ := hv
  have hx := B.exec
  have hb := B.bytes
  have hr := B.returns
  have hts := atoms_spec (ws := wsX12_howMany) B.pre
  have hown : s.vm.findClass RX12 = some m.cls := findClass_of_methodNamed B.named
  have hlocks := B.notSynchronized
  have hK := hE.1
  have hiX12 : ∀ w ∈ u_ws RX12 TX12 31, w ∈ wsX12_howMany := by decide +kernel
  have hf63 := hts (.fieldLink RX12 63 "SpeltByFriendsModel" "pageLength" "I") (by decide +kernel)
  have hf83 := hts (.fieldLink RX12 83 "SpeltByFriendsModel" "people" "I") (by decide +kernel)
  have hf86 := hts (.fieldLink RX12 86 "SpeltByFriendsModel" "towns" "I") (by decide +kernel)
  have hf89 := hts (.fieldLink RX12 89 "SpeltByFriendsModel" "went" "I") (by decide +kernel)
  have hf92 := hts (.fieldLink RX12 92 "SpeltByFriendsModel" "sold" "I") (by decide +kernel)
  have hf95 := hts (.fieldLink RX12 95 "SpeltByFriendsModel" "heard" "I") (by decide +kernel)
  have hf148 := hts (.fieldLink RX12 148 "SpeltByFriendsModel" "moveAsks" "I") (by decide +kernel)
  have hf160 := hts (.fieldLink RX12 160 "SpeltByFriendsModel" "dayAsks" "I") (by decide +kernel)
  have hl := lv_entry ([.ref (ad 0), .int p1]) (n := 2) (Nat.le_of_ble_eq_true rfl)
  rw [lg_entry_eq]
  generalize (lg_sl ([.ref (ad 0), .int p1]) ++ List.replicate (2 - (lg_sl ([.ref (ad 0), .int p1])).length) Slot.unset).toArray = ls at hl ⊢
  have hl : lv_has ls 2 [(0, .ref (ad 0)), (1, .int p1)] := hl
  obtain ⟨r, hF, hp⟩ : ∃ r, F_X12_howMany f0 g0 a0 p1 = some r ∧ r = out := ⟨out, hF, rfl⟩
  unfold F_X12_howMany at hF
  refine lv_iload_n hx hb dX12_howMany_0 rfl (lv_at hl 1 rfl) ?_
  by_cases hc1 : p1 = 0
  · have hF := it_p hc1 hF
    refine lv_tableIn (tgt := 56) (off := 55) hx hb dX12_howMany_1 (by rw [hc1]; decide) (by rw [hc1]; decide) (by rw [hc1]; rfl) (by decide) ?_
    refine lv_aload_n hx hb dX12_howMany_56 rfl (lv_at hl 0 rfl) ?_
    refine va_get (D := D) (ci := 12) (v := .int (f0 1)) (C := RX12) (T := TX12) (N := 31) hx hb hts hiX12 hown hK hP 0 rfl rfl 1 (by decide) hf83 (fun _ h9 => h9) rfl dX12_howMany_57 ?_
    exact W.iret hx hb hr (fun t ht hW => ⟨_, rfl, (Option.some.inj hF).trans hp, ht⟩) (fun q hq => by cases hq) dX12_howMany_60
  have hF := it_n hc1 hF
  by_cases hc2 : p1 = 1
  · have hF := it_p hc2 hF
    refine lv_tableIn (tgt := 61) (off := 60) hx hb dX12_howMany_1 (by rw [hc2]; decide) (by rw [hc2]; decide) (by rw [hc2]; rfl) (by decide) ?_
    refine lv_aload_n hx hb dX12_howMany_61 rfl (lv_at hl 0 rfl) ?_
    obtain ⟨r3, he3, hF⟩ := bd_s hF
    refine kS_i (va_runV (As := []) (rest := []) ⟨hx, hb, hml, hown, hts⟩ (c_X12_writtenAll l hz D ad ck f0 g0 a0 r3 he3) (cwV 0 hts gX12_howMany_X12_writtenAll rfl rfl rfl ⟨rfl, pX12_writtenAll⟩ ⟨Nat.le_of_ble_eq_true rfl, Nat.le_of_ble_eq_true rfl⟩) (kR.preV (va_recv hK hP (ci := 12) (q0 := 0) rfl rfl) hP hE) rfl rfl hl.1 rfl (lv_room (Nat.le_of_ble_eq_true rfl)) dX12_howMany_62 ⟨Nat.le_refl _, Nat.le_refl _⟩) ?_
    exact W.iret hx hb hr (fun t ht hW => ⟨_, rfl, (Option.some.inj hF).trans hp, ht⟩) (fun q hq => by cases hq) dX12_howMany_65
  have hF := it_n hc2 hF
  by_cases hc4 : p1 = 2
  · have hF := it_p hc4 hF
    refine lv_tableIn (tgt := 66) (off := 65) hx hb dX12_howMany_1 (by rw [hc4]; decide) (by rw [hc4]; decide) (by rw [hc4]; rfl) (by decide) ?_
    refine lv_aload_n hx hb dX12_howMany_66 rfl (lv_at hl 0 rfl) ?_
    obtain ⟨r5, he5, hF⟩ := bd_s hF
    refine kS_i (va_runV (As := []) (rest := []) ⟨hx, hb, hml, hown, hts⟩ (c_X12_pairs l hz D ad ck f0 g0 a0 r5 he5) (cwV 0 hts gX12_howMany_X12_pairs rfl rfl rfl ⟨rfl, pX12_pairs⟩ ⟨Nat.le_of_ble_eq_true rfl, Nat.le_of_ble_eq_true rfl⟩) (kR.preV (va_recv hK hP (ci := 12) (q0 := 0) rfl rfl) hP hE) rfl rfl hl.1 rfl (lv_room (Nat.le_of_ble_eq_true rfl)) dX12_howMany_67 ⟨Nat.le_refl _, Nat.le_refl _⟩) ?_
    exact W.iret hx hb hr (fun t ht hW => ⟨_, rfl, (Option.some.inj hF).trans hp, ht⟩) (fun q hq => by cases hq) dX12_howMany_70
  have hF := it_n hc4 hF
  by_cases hc6 : p1 = 3
  · have hF := it_p hc6 hF
    refine lv_tableIn (tgt := 71) (off := 70) hx hb dX12_howMany_1 (by rw [hc6]; decide) (by rw [hc6]; decide) (by rw [hc6]; rfl) (by decide) ?_
    refine lv_aload_n hx hb dX12_howMany_71 rfl (lv_at hl 0 rfl) ?_
    refine va_get (D := D) (ci := 12) (v := .int (f0 6)) (C := RX12) (T := TX12) (N := 31) hx hb hts hiX12 hown hK hP 0 rfl rfl 6 (by decide) hf89 (fun _ h9 => h9) rfl dX12_howMany_72 ?_
    exact W.iret hx hb hr (fun t ht hW => ⟨_, rfl, (Option.some.inj hF).trans hp, ht⟩) (fun q hq => by cases hq) dX12_howMany_75
  have hF := it_n hc6 hF
  by_cases hc7 : p1 = 4
  · have hF := it_p hc7 hF
    refine lv_tableIn (tgt := 76) (off := 75) hx hb dX12_howMany_1 (by rw [hc7]; decide) (by rw [hc7]; decide) (by rw [hc7]; rfl) (by decide) ?_
    refine lv_aload_n hx hb dX12_howMany_76 rfl (lv_at hl 0 rfl) ?_
    refine va_get (D := D) (ci := 12) (v := .int (f0 7)) (C := RX12) (T := TX12) (N := 31) hx hb hts hiX12 hown hK hP 0 rfl rfl 7 (by decide) hf92 (fun _ h9 => h9) rfl dX12_howMany_77 ?_
    exact W.iret hx hb hr (fun t ht hW => ⟨_, rfl, (Option.some.inj hF).trans hp, ht⟩) (fun q hq => by cases hq) dX12_howMany_80
  have hF := it_n hc7 hF
  by_cases hc8 : p1 = 5
  · have hF := it_p hc8 hF
    refine lv_tableIn (tgt := 81) (off := 80) hx hb dX12_howMany_1 (by rw [hc8]; decide) (by rw [hc8]; decide) (by rw [hc8]; rfl) (by decide) ?_
    refine lv_aload_n hx hb dX12_howMany_81 rfl (lv_at hl 0 rfl) ?_
    refine va_get (D := D) (ci := 12) (v := .int (f0 8)) (C := RX12) (T := TX12) (N := 31) hx hb hts hiX12 hown hK hP 0 rfl rfl 8 (by decide) hf95 (fun _ h9 => h9) rfl dX12_howMany_82 ?_
    exact W.iret hx hb hr (fun t ht hW => ⟨_, rfl, (Option.some.inj hF).trans hp, ht⟩) (fun q hq => by cases hq) dX12_howMany_85
  have hF := it_n hc8 hF
  by_cases hc9 : p1 = 6
  · have hF := it_p hc9 hF
    refine lv_tableIn (tgt := 86) (off := 85) hx hb dX12_howMany_1 (by rw [hc9]; decide) (by rw [hc9]; decide) (by rw [hc9]; rfl) (by decide) ?_
    refine lv_aload_n hx hb dX12_howMany_86 rfl (lv_at hl 0 rfl) ?_
    refine va_get (D := D) (ci := 12) (v := .int (f0 14)) (C := RX12) (T := TX12) (N := 31) hx hb hts hiX12 hown hK hP 0 rfl rfl 14 (by decide) hf63 (fun _ h9 => h9) rfl dX12_howMany_87 ?_
    exact W.iret hx hb hr (fun t ht hW => ⟨_, rfl, (Option.some.inj hF).trans hp, ht⟩) (fun q hq => by cases hq) dX12_howMany_90
  have hF := it_n hc9 hF
  by_cases hc10 : p1 = 7
  · have hF := it_p hc10 hF
    refine lv_tableIn (tgt := 91) (off := 90) hx hb dX12_howMany_1 (by rw [hc10]; decide) (by rw [hc10]; decide) (by rw [hc10]; rfl) (by decide) ?_
    refine lv_aload_n hx hb dX12_howMany_91 rfl (lv_at hl 0 rfl) ?_
    refine va_get (D := D) (ci := 12) (v := .int (f0 0)) (C := RX12) (T := TX12) (N := 31) hx hb hts hiX12 hown hK hP 0 rfl rfl 0 (by decide) hf86 (fun _ h9 => h9) rfl dX12_howMany_92 ?_
    exact W.iret hx hb hr (fun t ht hW => ⟨_, rfl, (Option.some.inj hF).trans hp, ht⟩) (fun q hq => by cases hq) dX12_howMany_95
  have hF := it_n hc10 hF
  by_cases hc11 : p1 = 8
  · have hF := it_p hc11 hF
    refine lv_tableIn (tgt := 96) (off := 95) hx hb dX12_howMany_1 (by rw [hc11]; decide) (by rw [hc11]; decide) (by rw [hc11]; rfl) (by decide) ?_
    refine lv_aload_n hx hb dX12_howMany_96 rfl (lv_at hl 0 rfl) ?_
    refine va_get (D := D) (ci := 12) (v := .int (f0 12)) (C := RX12) (T := TX12) (N := 31) hx hb hts hiX12 hown hK hP 0 rfl rfl 12 (by decide) hf148 (fun _ h9 => h9) rfl dX12_howMany_97 ?_
    exact W.iret hx hb hr (fun t ht hW => ⟨_, rfl, (Option.some.inj hF).trans hp, ht⟩) (fun q hq => by cases hq) dX12_howMany_100
  have hF := it_n hc11 hF
  by_cases hc12 : p1 = 9
  · have hF := it_p hc12 hF
    refine lv_tableIn (tgt := 101) (off := 100) hx hb dX12_howMany_1 (by rw [hc12]; decide) (by rw [hc12]; decide) (by rw [hc12]; rfl) (by decide) ?_
    refine lv_aload_n hx hb dX12_howMany_101 rfl (lv_at hl 0 rfl) ?_
    refine va_get (D := D) (ci := 12) (v := .int (f0 13)) (C := RX12) (T := TX12) (N := 31) hx hb hts hiX12 hown hK hP 0 rfl rfl 13 (by decide) hf160 (fun _ h9 => h9) rfl dX12_howMany_102 ?_
    exact W.iret hx hb hr (fun t ht hW => ⟨_, rfl, (Option.some.inj hF).trans hp, ht⟩) (fun q hq => by cases hq) dX12_howMany_105
  have hF := it_n hc12 hF
  refine lv_tableOut (tgt := 106) hx hb dX12_howMany_1 (by have z0 := lv_neT (a := 0) hc1 (by decide); have z1 := lv_neT (a := 1) hc2 (by decide); have z2 := lv_neT (a := 2) hc4 (by decide); have z3 := lv_neT (a := 3) hc6 (by decide); have z4 := lv_neT (a := 4) hc7 (by decide); have z5 := lv_neT (a := 5) hc8 (by decide); have z6 := lv_neT (a := 6) hc9 (by decide); have z7 := lv_neT (a := 7) hc10 (by decide); have z8 := lv_neT (a := 8) hc11 (by decide); have z9 := lv_neT (a := 9) hc12 (by decide); omega) (by decide) ?_
  refine lv_bipush (v := (-102)) hx hb dX12_howMany_106 (by decide) ?_
  exact W.iret hx hb hr (fun t ht hW => ⟨_, rfl, (Option.some.inj hF).trans hp, ht⟩) (fun q hq => by cases hq) dX12_howMany_108

def F_X12_count (f0 : Nat → Int32) (g0 : Nat → Int64) (a0 : Nat → Nat → Int32) (p1 : Int32) : Option Int32 := (F_X12_howMany f0 g0 a0 p1).bind fun r1 => some r1
set_option maxHeartbeats 4000000 in
set_option maxRecDepth 100000 in
theorem c_X12_count (l : Launch) (hz : Nat) (D : va_G) (ad : Nat → Nat) (ck : Nat → ClassId) (f0 : Nat → Int32) (g0 : Nat → Int64) (a0 : Nat → Nat → Int32) (p1 : Int32) (out : Int32) (hF : F_X12_count f0 g0 a0 p1 = some out) : Met l yX12_count wsX12_count ({ frames := 7, cells := 0, slots := 0, locals := 156 }) (kR hz D vwCl (tM ck) (wM ad ck f0 g0 a0) [.ref (ad 0), .int p1]) (kZi out) 0 0 (fun _ => False) := by
  refine Met.ofW (cc := cX12_count) (maxL := 2) (ret := (some .int)) (by decide) rfl ?_
  intro p e s m args below meth c s₁ B hml hv
  obtain ⟨rfl, hP, hE⟩ := hv
  have hx := B.exec
  have hb := B.bytes
  have hr := B.returns
  have hts := atoms_spec (ws := wsX12_count) B.pre
  have hown : s.vm.findClass RX12 = some m.cls := findClass_of_methodNamed B.named
  have hlocks := B.notSynchronized
  have hK := hE.1
  have hl := lv_entry ([.ref (ad 0), .int p1]) (n := 2) (Nat.le_of_ble_eq_true rfl)
  rw [lg_entry_eq]
  generalize (lg_sl ([.ref (ad 0), .int p1]) ++ List.replicate (2 - (lg_sl ([.ref (ad 0), .int p1])).length) Slot.unset).toArray = ls at hl ⊢
  have hl : lv_has ls 2 [(0, .ref (ad 0)), (1, .int p1)] := hl
  obtain ⟨r, hF, hp⟩ : ∃ r, F_X12_count f0 g0 a0 p1 = some r ∧ r = out := ⟨out, hF, rfl⟩
  unfold F_X12_count at hF
  refine lv_aload_n hx hb dX12_count_0 rfl (lv_at hl 0 rfl) ?_
  refine lv_iload_n hx hb dX12_count_1 rfl (lv_at hl 1 rfl) ?_
  obtain ⟨r1, he1, hF⟩ := bd_s hF
  refine kS_i (va_runV (As := [.int p1]) (rest := []) ⟨hx, hb, hml, hown, hts⟩ (c_X12_howMany l hz D ad ck f0 g0 a0 p1 r1 he1) (cwV 1 hts gX12_count_X12_howMany rfl rfl rfl ⟨rfl, pX12_howMany⟩ ⟨Nat.le_of_ble_eq_true rfl, Nat.le_of_ble_eq_true rfl⟩) (kR.preV (va_recv hK hP (ci := 12) (q0 := 0) rfl rfl) hP hE) rfl rfl hl.1 rfl (lv_room (Nat.le_of_ble_eq_true rfl)) dX12_count_2 ⟨Nat.le_refl _, Nat.le_refl _⟩) ?_
  exact W.iret hx hb hr (fun t ht hW => ⟨_, rfl, (Option.some.inj hF).trans hp, ht⟩) (fun q hq => by cases hq) dX12_count_5

def F_X12_mix (f0 : Nat → Int32) (g0 : Nat → Int64) (a0 : Nat → Nat → Int32) (p1 : Int64) : Option ST := some (f0, (vp_updL g0 30 (((31 : Int64) * (g0 30)) + p1)), a0)
set_option maxHeartbeats 4000000 in
set_option maxRecDepth 100000 in
theorem c_X12_mix (l : Launch) (hz : Nat) (D : va_G) (ad : Nat → Nat) (ck : Nat → ClassId) (f0 : Nat → Int32) (g0 : Nat → Int64) (a0 : Nat → Nat → Int32) (p1 : Int64) (out : ST) (hF : F_X12_mix f0 g0 a0 p1 = some out) : Met l yX12_mix wsX12_mix ({ frames := 0, cells := 0, slots := 0, locals := 0 }) (kW hz D vwCl (tM ck) (wM ad ck f0 g0 a0) [.ref (ad 0), .long p1]) (kQ D vwCl none (wM ad ck f0 g0 a0) (wM ad ck out.1 out.2.1 out.2.2)) 0 0 (kAd (wM ad ck f0 g0 a0)) := by
  refine Met.ofW (cc := cX12_mix) (maxL := 3) (ret := none) (by decide) rfl ?_
  intro p e s m args below meth c s₁ B hml hv
  obtain ⟨rfl, hP, hE, hD0⟩ := hv
  have hx := B.exec
  have hb := B.bytes
  have hr := B.returns
  have hts := atoms_spec (ws := wsX12_mix) B.pre
  have hown : s.vm.findClass RX12 = some m.cls := findClass_of_methodNamed B.named
  have hlocks := B.notSynchronized
  have hK := hE.1
  have hnA := kAd_up hD0
  have hD := kD_self hD0
  have hS : va_S (kAd (wM ad ck f0 g0 a0)) s.heap s.heap [] := va_S.rf
  have hiX12 : ∀ w ∈ u_ws RX12 TX12 31, w ∈ wsX12_mix := by decide +kernel
  have hf227 := hts (.fieldLink RX12 227 "SpeltByFriendsModel" "h" "J") (by decide +kernel)
  have hl := lv_entry ([.ref (ad 0), .long p1]) (n := 3) (Nat.le_of_ble_eq_true rfl)
  rw [lg_entry_eq]
  generalize (lg_sl ([.ref (ad 0), .long p1]) ++ List.replicate (3 - (lg_sl ([.ref (ad 0), .long p1])).length) Slot.unset).toArray = ls at hl ⊢
  have hl : lv_has ls 3 [(0, .ref (ad 0)), (1, .long p1)] := hl
  obtain ⟨r, hF, hp⟩ : ∃ r, F_X12_mix f0 g0 a0 p1 = some r ∧ r = out := ⟨out, hF, rfl⟩
  unfold F_X12_mix at hF
  refine lv_aload_n hx hb dX12_mix_0 rfl (lv_at hl 0 rfl) ?_
  refine lv_ldc2 (v := 31) hx hb hown (hts (.constantLong RX12 225 (31)) (by decide +kernel)) dX12_mix_1 ?_
  refine lv_aload_n hx hb dX12_mix_4 rfl (lv_at hl 0 rfl) ?_
  refine va_get (D := D) (ci := 12) (v := .long (g0 30)) (C := RX12) (T := TX12) (N := 31) hx hb hts hiX12 hown hK hP 0 rfl rfl 30 (by decide) hf227 (fun _ h9 => h9) rfl dX12_mix_5 ?_
  refine lv_lmul hx hb dX12_mix_8 ?_
  refine lv_lload_n hx hb dX12_mix_9 rfl (lv_at hl 1 rfl) ?_
  refine lv_ladd hx hb dX12_mix_10 ?_
  refine va_put (D := D) (ci := 12) (v := .long (((31 : Int64) * (g0 30)) + p1)) (ty := .long) (C := RX12) (T := TX12) (N := 31) hx hb hts hiX12 tyX12 tyX12_ok nmX12 hown hK hP hD hS 0 rfl rfl 30 (by decide) hf227 (fun _ h9 => h9) rfl (tyX12_ok 30 (by decide)) rfl rfl (Nat.le_of_ble_eq_true rfl) dX12_mix_11 (fun H locs hP hD hS => ?_)
  have hP := kPe (ef_wM0_30 ad ck f0 g0 a0 (((31 : Int64) * (g0 30)) + p1)) hP
  have hD := kDe (ef_wM0_30 ad ck f0 g0 a0 (((31 : Int64) * (g0 30)) + p1)) hD
  have hF := (Option.some.inj hF).trans hp
  subst hF
  exact W.vret hx hb hr (fun t ht hW => ⟨rfl, by rw [ht]; exact hP, hS.F ht⟩) hS.2.2 dX12_mix_14

def B_X12_digest_109 (f109 : Nat → Int32) (g109 : Nat → Int64) (a109 : Nat → Nat → Int32) (x1_109 : Int32) : Option ((Int32 × ST) ⊕ (Int64 × ST)) := if 10 ≤ x1_109 then Option.map Sum.inr (some ((g109 30), f109, g109, a109)) else (F_X12_howMany f109 g109 a109 x1_109).bind fun r4 => (F_X12_mix f109 g109 a109 (r4.toInt64)).bind fun r5 => some (.inl ((x1_109 + 1), r5.1, r5.2.1, r5.2.2))
def N_X12_digest_109 (f109 : Nat → Int32) (g109 : Nat → Int64) (a109 : Nat → Nat → Int32) (x1_109 : Int32) : Option (Int64 × ST) := lpN (fun q109 : (Int32 × ST) => B_X12_digest_109 q109.2.1 q109.2.2.1 q109.2.2.2 q109.1) kFu (x1_109, f109, g109, a109)
def B_X12_digest_82 (f82 : Nat → Int32) (g82 : Nat → Int64) (a82 : Nat → Nat → Int32) (x1_82 : Int32) : Option ((Int32 × ST) ⊕ (Int64 × ST)) := if (f82 14) ≤ x1_82 then Option.map Sum.inr (N_X12_digest_109 f82 g82 a82 0) else gd (inB x1_82 21) ((F_X12_mix f82 g82 a82 ((a82 15 x1_82.toNatClampNeg).toInt64)).bind fun r7 => some (.inl ((x1_82 + 1), r7.1, r7.2.1, r7.2.2)))
def N_X12_digest_82 (f82 : Nat → Int32) (g82 : Nat → Int64) (a82 : Nat → Nat → Int32) (x1_82 : Int32) : Option (Int64 × ST) := lpN (fun q82 : (Int32 × ST) => B_X12_digest_82 q82.2.1 q82.2.2.1 q82.2.2.2 q82.1) kFu (x1_82, f82, g82, a82)
def B_X12_digest_19 (f19 : Nat → Int32) (g19 : Nat → Int64) (a19 : Nat → Nat → Int32) (x1_19 : Int32) (x2_19 : Int32) : Option ((Int32 × ST) ⊕ ((Int32 × ST) ⊕ (Int64 × ST))) := if 9 ≤ x2_19 then Option.map Sum.inr ((F_X12_holdersNow f19 g19 a19 x1_19 0).bind fun r9 => (F_X12_mix f19 g19 a19 (r9.toInt64)).bind fun r10 => (F_X12_holdersNow r10.1 r10.2.1 r10.2.2 x1_19 1).bind fun r11 => (F_X12_mix r10.1 r10.2.1 r10.2.2 (r11.toInt64)).bind fun r12 => (F_X12_inviteNow r12.1 r12.2.1 r12.2.2 x1_19).bind fun r13 => (F_X12_mix r12.1 r12.2.1 r12.2.2 (r13.toInt64)).bind fun r14 => some (.inl ((x1_19 + 1), r14.1, r14.2.1, r14.2.2))) else (F_X12_oneNow f19 g19 a19 x1_19 x2_19).bind fun r15 => (F_X12_mix f19 g19 a19 (r15.toInt64)).bind fun r16 => some (.inl ((x2_19 + 1), r16.1, r16.2.1, r16.2.2))
def N_X12_digest_19 (f19 : Nat → Int32) (g19 : Nat → Int64) (a19 : Nat → Nat → Int32) (x1_19 : Int32) (x2_19 : Int32) : Option ((Int32 × ST) ⊕ (Int64 × ST)) := lpN (fun q19 : (Int32 × ST) => B_X12_digest_19 q19.2.1 q19.2.2.1 q19.2.2.2 x1_19 q19.1) kFu (x2_19, f19, g19, a19)
def B_X12_digest_9 (f9 : Nat → Int32) (g9 : Nat → Int64) (a9 : Nat → Nat → Int32) (x1_9 : Int32) : Option ((Int32 × ST) ⊕ (Int64 × ST)) := if (f9 1) ≤ x1_9 then Option.map Sum.inr (N_X12_digest_82 f9 g9 a9 0) else N_X12_digest_19 f9 g9 a9 x1_9 0
def N_X12_digest_9 (f9 : Nat → Int32) (g9 : Nat → Int64) (a9 : Nat → Nat → Int32) (x1_9 : Int32) : Option (Int64 × ST) := lpN (fun q9 : (Int32 × ST) => B_X12_digest_9 q9.2.1 q9.2.2.1 q9.2.2.2 q9.1) kFu (x1_9, f9, g9, a9)
def F_X12_digest (f0 : Nat → Int32) (g0 : Nat → Int64) (a0 : Nat → Nat → Int32) : Option (Int64 × ST) := N_X12_digest_9 f0 (vp_updL g0 30 983) a0 0
set_option maxHeartbeats 4000000 in
set_option maxRecDepth 100000 in
theorem c_X12_digest (l : Launch) (hz : Nat) (D : va_G) (ad : Nat → Nat) (ck : Nat → ClassId) (f0 : Nat → Int32) (g0 : Nat → Int64) (a0 : Nat → Nat → Int32) (out : (Int64 × ST)) (hF : F_X12_digest f0 g0 a0 = some out) : Met l yX12_digest wsX12_digest ({ frames := 7, cells := 0, slots := 0, locals := 156 }) (kW hz D vwCl (tM ck) (wM ad ck f0 g0 a0) [.ref (ad 0)]) (kQ D vwCl (some (.long out.1)) (wM ad ck f0 g0 a0) (wM ad ck out.2.1 out.2.2.1 out.2.2.2)) 0 0 (kAd (wM ad ck f0 g0 a0)) := by
  refine Met.ofW (cc := cX12_digest) (maxL := 3) (ret := (some .long)) (by decide) rfl ?_
  intro p e s m args below meth c s₁ B hml hv
  obtain ⟨rfl, hP, hE, hD0⟩ := hv
  have hx := B.exec
  have hb := B.bytes
  have hr := B.returns
  have hts := atoms_spec (ws := wsX12_digest) B.pre
  have hown : s.vm.findClass RX12 = some m.cls := findClass_of_methodNamed B.named
  have hlocks := B.notSynchronized
  have hK := hE.1
  have hnA := kAd_up hD0
  have hD := kD_self hD0
  have hS : va_S (kAd (wM ad ck f0 g0 a0)) s.heap s.heap [] := va_S.rf
  have hiX12 : ∀ w ∈ u_ws RX12 TX12 31, w ∈ wsX12_digest := by decide +kernel
  have hf31 := hts (.fieldLink RX12 31 "SpeltByFriendsModel" "page" "[B") (by decide +kernel)
  have hf63 := hts (.fieldLink RX12 63 "SpeltByFriendsModel" "pageLength" "I") (by decide +kernel)
  have hf83 := hts (.fieldLink RX12 83 "SpeltByFriendsModel" "people" "I") (by decide +kernel)
  have hf227 := hts (.fieldLink RX12 227 "SpeltByFriendsModel" "h" "J") (by decide +kernel)
  have hN_109 : ∀ (n109 : Nat) (f109 : Nat → Int32) (g109 : Nat → Int64) (a109 : Nat → Nat → Int32) (H : Heap) (locs : List Loc) (x1_109 : Int32) (ls : Array Slot), va_P D vwCl (wM ad ck f109 g109 a109) H → va_D (kAd (wM ad ck f0 g0 a0)) (wM ad ck f109 g109 a109) → va_S (kAd (wM ad ck f0 g0 a0)) s.heap H locs → lv_has ls 3 [(0, .ref (ad 0)), (1, .int x1_109)] → ∀ r : (Int64 × ST), lpN (fun q109 : (Int32 × ST) => B_X12_digest_109 q109.2.1 q109.2.2.1 q109.2.2.2 q109.1) n109 (x1_109, f109, g109, a109) = some r → (fun r => r = out) r → W p l e (headSpec wsX12_digest ({ frames := 7, cells := 0, slots := 0, locals := 156 })).room s m [.ref (ad 0)].toArray below meth c H locs 0 0 (MQ below (kQ D vwCl (some (.long out.1)) (wM ad ck f0 g0 a0) (wM ad ck out.2.1 out.2.2.1 out.2.2.2)) [.ref (ad 0)].toArray s 0 0 (kAd (wM ad ck f0 g0 a0))) (F0 m 109 ls []) := by
    intro n109
    induction n109 with
    | zero => intro f109 g109 a109 H locs x1_109 ls hP hD hS hl r hF hp; exact (lp_z hF).elim
    | succ n109 ih109 =>
      intro f109 g109 a109 H locs x1_109 ls hP hD hS hl r hF hp
      obtain ⟨rs, hF, hp⟩ := lpN_K (P := (fun r => r = out)) hF hp
      unfold B_X12_digest_109 at hF
      refine lv_iload_n hx hb dX12_digest_109 rfl (lv_at hl 1 rfl) ?_
      refine lv_bipush (v := 10) hx hb dX12_digest_110 (by decide) ?_
      refine lv_icmp_ge (tgt := 131) hx hb dX12_digest_112 (by decide) (fun hc3 => ?_) (fun hc3 => ?_)
      · have hF := it_p hc3 hF
        obtain ⟨r, hF1, hr0⟩ := mp_s hF
        clear hF
        subst hr0
        have hF := hF1
        clear hF1
        have hp : (fun r => r = out) r := hp
        refine lv_aload_n hx hb dX12_digest_131 rfl (lv_at hl 0 rfl) ?_
        refine va_get (D := D) (ci := 12) (v := .long (g109 30)) (C := RX12) (T := TX12) (N := 31) hx hb hts hiX12 hown hK hP 0 rfl rfl 30 (by decide) hf227 (fun _ h9 => h9) rfl dX12_digest_132 ?_
        have hF := (Option.some.inj hF).trans hp
        subst hF
        exact W.lret hx hb hr (fun t ht hW => ⟨rfl, by rw [ht]; exact hP, hS.F ht⟩) hS.2.2 dX12_digest_135
      · have hF := it_n hc3 hF
        refine lv_aload_n hx hb dX12_digest_115 rfl (lv_at hl 0 rfl) ?_
        refine lv_aload_n hx hb dX12_digest_116 rfl (lv_at hl 0 rfl) ?_
        refine lv_iload_n hx hb dX12_digest_117 rfl (lv_at hl 1 rfl) ?_
        obtain ⟨r4, he4, hF⟩ := bd_s hF
        refine kS_i (va_runV (As := [.int x1_109]) (rest := [.ref (ad 0)]) ⟨hx, hb, hml, hown, hts⟩ (c_X12_howMany l hz D ad ck f109 g109 a109 x1_109 r4 he4) (cwV 1 hts gX12_digest_X12_howMany rfl rfl rfl ⟨rfl, pX12_howMany⟩ ⟨Nat.le_of_ble_eq_true rfl, Nat.le_of_ble_eq_true rfl⟩) (kR.preV (va_recv hK hP (ci := 12) (q0 := 0) rfl rfl) hP (hE.kept hS hnA)) rfl rfl hl.1 rfl (lv_room (Nat.le_of_ble_eq_true rfl)) dX12_digest_118 ⟨Nat.le_refl _, Nat.le_refl _⟩) ?_
        refine lv_i2l (v := r4.toInt64) hx hb dX12_digest_121 rfl ?_
        obtain ⟨r5, he5, hF⟩ := bd_s hF
        refine kS_w (va_runV (As := [.long (r4.toInt64)]) (rest := []) ⟨hx, hb, hml, hown, hts⟩ (c_X12_mix l hz D ad ck f109 g109 a109 (r4.toInt64) r5 he5) (cwV 1 hts gX12_digest_X12_mix rfl rfl rfl ⟨rfl, pX12_mix⟩ ⟨Nat.le_of_ble_eq_true rfl, Nat.le_of_ble_eq_true rfl⟩) (kW.preV (va_recv hK hP (ci := 12) (q0 := 0) rfl rfl) hP (hE.kept hS hnA) hD hnA) rfl rfl hl.1 rfl (lv_room (Nat.le_of_ble_eq_true rfl)) dX12_digest_122 ⟨Nat.le_refl _, Nat.le_refl _⟩) hD hS rfl (fun H locs hP hD hS => ?_)
        refine lv_iinc (v := (x1_109 + 1)) (lv' := [(1, .int (x1_109 + 1)), (0, .ref (ad 0))]) hx hb dX12_digest_125 hl (k := 1) rfl rfl (by decide) rfl (fun ls hl => ?_)
        refine lv_goto (tgt := 109) hx hb dX12_digest_128 (by decide) ?_
        have hF := Option.some.inj hF
        subst hF
        obtain ⟨r, hF, hp⟩ := hp
        exact ih109 r5.1 r5.2.1 r5.2.2 _ _ (x1_109 + 1) ls hP hD hS (lv_sub hl [1, 0] rfl) r hF hp
  have hN_82 : ∀ (n82 : Nat) (f82 : Nat → Int32) (g82 : Nat → Int64) (a82 : Nat → Nat → Int32) (H : Heap) (locs : List Loc) (x1_82 : Int32) (ls : Array Slot), va_P D vwCl (wM ad ck f82 g82 a82) H → va_D (kAd (wM ad ck f0 g0 a0)) (wM ad ck f82 g82 a82) → va_S (kAd (wM ad ck f0 g0 a0)) s.heap H locs → lv_has ls 3 [(0, .ref (ad 0)), (1, .int x1_82)] → ∀ r : (Int64 × ST), lpN (fun q82 : (Int32 × ST) => B_X12_digest_82 q82.2.1 q82.2.2.1 q82.2.2.2 q82.1) n82 (x1_82, f82, g82, a82) = some r → (fun r => r = out) r → W p l e (headSpec wsX12_digest ({ frames := 7, cells := 0, slots := 0, locals := 156 })).room s m [.ref (ad 0)].toArray below meth c H locs 0 0 (MQ below (kQ D vwCl (some (.long out.1)) (wM ad ck f0 g0 a0) (wM ad ck out.2.1 out.2.2.1 out.2.2.2)) [.ref (ad 0)].toArray s 0 0 (kAd (wM ad ck f0 g0 a0))) (F0 m 82 ls []) := by
    intro n82
    induction n82 with
    | zero => intro f82 g82 a82 H locs x1_82 ls hP hD hS hl r hF hp; exact (lp_z hF).elim
    | succ n82 ih82 =>
      intro f82 g82 a82 H locs x1_82 ls hP hD hS hl r hF hp
      obtain ⟨rs, hF, hp⟩ := lpN_K (P := (fun r => r = out)) hF hp
      unfold B_X12_digest_82 at hF
      refine lv_iload_n hx hb dX12_digest_82 rfl (lv_at hl 1 rfl) ?_
      refine lv_aload_n hx hb dX12_digest_83 rfl (lv_at hl 0 rfl) ?_
      refine va_get (D := D) (ci := 12) (v := .int (f82 14)) (C := RX12) (T := TX12) (N := 31) hx hb hts hiX12 hown hK hP 0 rfl rfl 14 (by decide) hf63 (fun _ h9 => h9) rfl dX12_digest_84 ?_
      refine lv_icmp_ge (tgt := 107) hx hb dX12_digest_87 (by decide) (fun hc2 => ?_) (fun hc2 => ?_)
      · have hF := it_p hc2 hF
        obtain ⟨r, hF1, hr0⟩ := mp_s hF
        clear hF
        subst hr0
        have hF := hF1
        clear hF1
        have hp : (fun r => r = out) r := hp
        refine lv_iconst (v := 0) hx hb dX12_digest_107 (by decide) ?_
        refine lv_istore_n (lv' := [(1, .int 0), (0, .ref (ad 0))]) hx hb dX12_digest_108 rfl hl (by decide) rfl (fun ls hl => ?_)
        exact hN_109 kFu f82 g82 a82 _ _ 0 ls hP hD hS (lv_sub hl [1, 0] rfl) _ hF hp
      · have hF := it_n hc2 hF
        refine lv_aload_n hx hb dX12_digest_90 rfl (lv_at hl 0 rfl) ?_
        refine lv_aload_n hx hb dX12_digest_91 rfl (lv_at hl 0 rfl) ?_
        refine va_get (D := D) (ci := 12) (v := .ref (ad 15)) (C := RX12) (T := TX12) (N := 31) hx hb hts hiX12 hown hK hP 0 rfl rfl 15 (by decide) hf31 (fun _ h9 => h9) rfl dX12_digest_92 ?_
        refine lv_iload_n hx hb dX12_digest_95 rfl (lv_at hl 1 rfl) ?_
        obtain ⟨hg6, hF⟩ := gd_s hF
        refine va_bald hx hb hK hP 8 7 rfl rfl (inB_in hg6) dX12_digest_96 ?_
        refine lv_i2l (v := (a82 15 x1_82.toNatClampNeg).toInt64) hx hb dX12_digest_97 rfl ?_
        obtain ⟨r7, he7, hF⟩ := bd_s hF
        refine kS_w (va_runV (As := [.long ((a82 15 x1_82.toNatClampNeg).toInt64)]) (rest := []) ⟨hx, hb, hml, hown, hts⟩ (c_X12_mix l hz D ad ck f82 g82 a82 ((a82 15 x1_82.toNatClampNeg).toInt64) r7 he7) (cwV 1 hts gX12_digest_X12_mix rfl rfl rfl ⟨rfl, pX12_mix⟩ ⟨Nat.le_of_ble_eq_true rfl, Nat.le_of_ble_eq_true rfl⟩) (kW.preV (va_recv hK hP (ci := 12) (q0 := 0) rfl rfl) hP (hE.kept hS hnA) hD hnA) rfl rfl hl.1 rfl (lv_room (Nat.le_of_ble_eq_true rfl)) dX12_digest_98 ⟨Nat.le_refl _, Nat.le_refl _⟩) hD hS rfl (fun H locs hP hD hS => ?_)
        refine lv_iinc (v := (x1_82 + 1)) (lv' := [(1, .int (x1_82 + 1)), (0, .ref (ad 0))]) hx hb dX12_digest_101 hl (k := 1) rfl rfl (by decide) rfl (fun ls hl => ?_)
        refine lv_goto (tgt := 82) hx hb dX12_digest_104 (by decide) ?_
        have hF := Option.some.inj hF
        subst hF
        obtain ⟨r, hF, hp⟩ := hp
        exact ih82 r7.1 r7.2.1 r7.2.2 _ _ (x1_82 + 1) ls hP hD hS (lv_sub hl [1, 0] rfl) r hF hp
  have hN_9 : ∀ (n9 : Nat) (f9 : Nat → Int32) (g9 : Nat → Int64) (a9 : Nat → Nat → Int32) (H : Heap) (locs : List Loc) (x1_9 : Int32) (ls : Array Slot), va_P D vwCl (wM ad ck f9 g9 a9) H → va_D (kAd (wM ad ck f0 g0 a0)) (wM ad ck f9 g9 a9) → va_S (kAd (wM ad ck f0 g0 a0)) s.heap H locs → lv_has ls 3 [(0, .ref (ad 0)), (1, .int x1_9)] → ∀ r : (Int64 × ST), lpN (fun q9 : (Int32 × ST) => B_X12_digest_9 q9.2.1 q9.2.2.1 q9.2.2.2 q9.1) n9 (x1_9, f9, g9, a9) = some r → (fun r => r = out) r → W p l e (headSpec wsX12_digest ({ frames := 7, cells := 0, slots := 0, locals := 156 })).room s m [.ref (ad 0)].toArray below meth c H locs 0 0 (MQ below (kQ D vwCl (some (.long out.1)) (wM ad ck f0 g0 a0) (wM ad ck out.2.1 out.2.2.1 out.2.2.2)) [.ref (ad 0)].toArray s 0 0 (kAd (wM ad ck f0 g0 a0))) (F0 m 9 ls []) := by
    intro n9
    induction n9 with
    | zero => intro f9 g9 a9 H locs x1_9 ls hP hD hS hl r hF hp; exact (lp_z hF).elim
    | succ n9 ih9 =>
      intro f9 g9 a9 H locs x1_9 ls hP hD hS hl r hF hp
      obtain ⟨rs, hF, hp⟩ := lpN_K (P := (fun r => r = out)) hF hp
      have hN_19 : ∀ (x1_19 : Int32) (n19 : Nat) (f19 : Nat → Int32) (g19 : Nat → Int64) (a19 : Nat → Nat → Int32) (H : Heap) (locs : List Loc) (x2_19 : Int32) (ls : Array Slot), va_P D vwCl (wM ad ck f19 g19 a19) H → va_D (kAd (wM ad ck f0 g0 a0)) (wM ad ck f19 g19 a19) → va_S (kAd (wM ad ck f0 g0 a0)) s.heap H locs → lv_has ls 3 [(0, .ref (ad 0)), (1, .int x1_19), (2, .int x2_19)] → ∀ r : ((Int32 × ST) ⊕ (Int64 × ST)), lpN (fun q19 : (Int32 × ST) => B_X12_digest_19 q19.2.1 q19.2.2.1 q19.2.2.2 x1_19 q19.1) n19 (x2_19, f19, g19, a19) = some r → (lpK (fun q9 : (Int32 × ST) => B_X12_digest_9 q9.2.1 q9.2.2.1 q9.2.2.2 q9.1) n9 (fun r => r = out)) r → W p l e (headSpec wsX12_digest ({ frames := 7, cells := 0, slots := 0, locals := 156 })).room s m [.ref (ad 0)].toArray below meth c H locs 0 0 (MQ below (kQ D vwCl (some (.long out.1)) (wM ad ck f0 g0 a0) (wM ad ck out.2.1 out.2.2.1 out.2.2.2)) [.ref (ad 0)].toArray s 0 0 (kAd (wM ad ck f0 g0 a0))) (F0 m 19 ls []) := by
        intro x1_19 n19
        induction n19 with
        | zero => intro f19 g19 a19 H locs x2_19 ls hP hD hS hl r hF hp; exact (lp_z hF).elim
        | succ n19 ih19 =>
          intro f19 g19 a19 H locs x2_19 ls hP hD hS hl r hF hp
          obtain ⟨rs, hF, hp⟩ := lpN_K (P := (lpK (fun q9 : (Int32 × ST) => B_X12_digest_9 q9.2.1 q9.2.2.1 q9.2.2.2 q9.1) n9 (fun r => r = out))) hF hp
          unfold B_X12_digest_19 at hF
          refine lv_iload_n hx hb dX12_digest_19 rfl (lv_at hl 2 rfl) ?_
          refine lv_bipush (v := 9) hx hb dX12_digest_20 (by decide) ?_
          refine lv_icmp_ge (tgt := 42) hx hb dX12_digest_22 (by decide) (fun hc8 => ?_) (fun hc8 => ?_)
          · have hF := it_p hc8 hF
            obtain ⟨r, hF1, hr0⟩ := mp_s hF
            clear hF
            subst hr0
            have hF := hF1
            clear hF1
            have hp : (lpK (fun q9 : (Int32 × ST) => B_X12_digest_9 q9.2.1 q9.2.2.1 q9.2.2.2 q9.1) n9 (fun r => r = out)) r := hp
            refine lv_aload_n hx hb dX12_digest_42 rfl (lv_at hl 0 rfl) ?_
            refine lv_aload_n hx hb dX12_digest_43 rfl (lv_at hl 0 rfl) ?_
            refine lv_iload_n hx hb dX12_digest_44 rfl (lv_at hl 1 rfl) ?_
            refine lv_iconst (v := 0) hx hb dX12_digest_45 (by decide) ?_
            obtain ⟨r9, he9, hF⟩ := bd_s hF
            refine kS_i (va_runV (As := [.int x1_19, .int 0]) (rest := [.ref (ad 0)]) ⟨hx, hb, hml, hown, hts⟩ (c_X12_holdersNow l hz D ad ck f19 g19 a19 x1_19 0 r9 he9) (cwV 2 hts gX12_digest_X12_holdersNow rfl rfl rfl ⟨rfl, pX12_holdersNow⟩ ⟨Nat.le_of_ble_eq_true rfl, Nat.le_of_ble_eq_true rfl⟩) (kR.preV (va_recv hK hP (ci := 12) (q0 := 0) rfl rfl) hP (hE.kept hS hnA)) rfl rfl hl.1 rfl (lv_room (Nat.le_of_ble_eq_true rfl)) dX12_digest_46 ⟨Nat.le_refl _, Nat.le_refl _⟩) ?_
            refine lv_i2l (v := r9.toInt64) hx hb dX12_digest_49 rfl ?_
            obtain ⟨r10, he10, hF⟩ := bd_s hF
            refine kS_w (va_runV (As := [.long (r9.toInt64)]) (rest := []) ⟨hx, hb, hml, hown, hts⟩ (c_X12_mix l hz D ad ck f19 g19 a19 (r9.toInt64) r10 he10) (cwV 1 hts gX12_digest_X12_mix rfl rfl rfl ⟨rfl, pX12_mix⟩ ⟨Nat.le_of_ble_eq_true rfl, Nat.le_of_ble_eq_true rfl⟩) (kW.preV (va_recv hK hP (ci := 12) (q0 := 0) rfl rfl) hP (hE.kept hS hnA) hD hnA) rfl rfl hl.1 rfl (lv_room (Nat.le_of_ble_eq_true rfl)) dX12_digest_50 ⟨Nat.le_refl _, Nat.le_refl _⟩) hD hS rfl (fun H locs hP hD hS => ?_)
            refine lv_aload_n hx hb dX12_digest_53 rfl (lv_at hl 0 rfl) ?_
            refine lv_aload_n hx hb dX12_digest_54 rfl (lv_at hl 0 rfl) ?_
            refine lv_iload_n hx hb dX12_digest_55 rfl (lv_at hl 1 rfl) ?_
            refine lv_iconst (v := 1) hx hb dX12_digest_56 (by decide) ?_
            obtain ⟨r11, he11, hF⟩ := bd_s hF
            refine kS_i (va_runV (As := [.int x1_19, .int 1]) (rest := [.ref (ad 0)]) ⟨hx, hb, hml, hown, hts⟩ (c_X12_holdersNow l hz D ad ck r10.1 r10.2.1 r10.2.2 x1_19 1 r11 he11) (cwV 2 hts gX12_digest_X12_holdersNow rfl rfl rfl ⟨rfl, pX12_holdersNow⟩ ⟨Nat.le_of_ble_eq_true rfl, Nat.le_of_ble_eq_true rfl⟩) (kR.preV (va_recv hK hP (ci := 12) (q0 := 0) rfl rfl) hP (hE.kept hS hnA)) rfl rfl hl.1 rfl (lv_room (Nat.le_of_ble_eq_true rfl)) dX12_digest_57 ⟨Nat.le_refl _, Nat.le_refl _⟩) ?_
            refine lv_i2l (v := r11.toInt64) hx hb dX12_digest_60 rfl ?_
            obtain ⟨r12, he12, hF⟩ := bd_s hF
            refine kS_w (va_runV (As := [.long (r11.toInt64)]) (rest := []) ⟨hx, hb, hml, hown, hts⟩ (c_X12_mix l hz D ad ck r10.1 r10.2.1 r10.2.2 (r11.toInt64) r12 he12) (cwV 1 hts gX12_digest_X12_mix rfl rfl rfl ⟨rfl, pX12_mix⟩ ⟨Nat.le_of_ble_eq_true rfl, Nat.le_of_ble_eq_true rfl⟩) (kW.preV (va_recv hK hP (ci := 12) (q0 := 0) rfl rfl) hP (hE.kept hS hnA) hD hnA) rfl rfl hl.1 rfl (lv_room (Nat.le_of_ble_eq_true rfl)) dX12_digest_61 ⟨Nat.le_refl _, Nat.le_refl _⟩) hD hS rfl (fun H locs hP hD hS => ?_)
            refine lv_aload_n hx hb dX12_digest_64 rfl (lv_at hl 0 rfl) ?_
            refine lv_aload_n hx hb dX12_digest_65 rfl (lv_at hl 0 rfl) ?_
            refine lv_iload_n hx hb dX12_digest_66 rfl (lv_at hl 1 rfl) ?_
            obtain ⟨r13, he13, hF⟩ := bd_s hF
            refine kS_i (va_runV (As := [.int x1_19]) (rest := [.ref (ad 0)]) ⟨hx, hb, hml, hown, hts⟩ (c_X12_inviteNow l hz D ad ck r12.1 r12.2.1 r12.2.2 x1_19 r13 he13) (cwV 1 hts gX12_digest_X12_inviteNow rfl rfl rfl ⟨rfl, pX12_inviteNow⟩ ⟨Nat.le_of_ble_eq_true rfl, Nat.le_of_ble_eq_true rfl⟩) (kR.preV (va_recv hK hP (ci := 12) (q0 := 0) rfl rfl) hP (hE.kept hS hnA)) rfl rfl hl.1 rfl (lv_room (Nat.le_of_ble_eq_true rfl)) dX12_digest_67 ⟨Nat.le_refl _, Nat.le_refl _⟩) ?_
            refine lv_i2l (v := r13.toInt64) hx hb dX12_digest_70 rfl ?_
            obtain ⟨r14, he14, hF⟩ := bd_s hF
            refine kS_w (va_runV (As := [.long (r13.toInt64)]) (rest := []) ⟨hx, hb, hml, hown, hts⟩ (c_X12_mix l hz D ad ck r12.1 r12.2.1 r12.2.2 (r13.toInt64) r14 he14) (cwV 1 hts gX12_digest_X12_mix rfl rfl rfl ⟨rfl, pX12_mix⟩ ⟨Nat.le_of_ble_eq_true rfl, Nat.le_of_ble_eq_true rfl⟩) (kW.preV (va_recv hK hP (ci := 12) (q0 := 0) rfl rfl) hP (hE.kept hS hnA) hD hnA) rfl rfl hl.1 rfl (lv_room (Nat.le_of_ble_eq_true rfl)) dX12_digest_71 ⟨Nat.le_refl _, Nat.le_refl _⟩) hD hS rfl (fun H locs hP hD hS => ?_)
            refine lv_iinc (v := (x1_19 + 1)) (lv' := [(1, .int (x1_19 + 1)), (0, .ref (ad 0)), (2, .int x2_19)]) hx hb dX12_digest_74 hl (k := 1) rfl rfl (by decide) rfl (fun ls hl => ?_)
            refine lv_goto (tgt := 9) hx hb dX12_digest_77 (by decide) ?_
            have hF := Option.some.inj hF
            subst hF
            obtain ⟨r, hF, hp⟩ := hp
            exact ih9 r14.1 r14.2.1 r14.2.2 _ _ (x1_19 + 1) ls hP hD hS (lv_sub hl [1, 0] rfl) r hF hp
          · have hF := it_n hc8 hF
            refine lv_aload_n hx hb dX12_digest_25 rfl (lv_at hl 0 rfl) ?_
            refine lv_aload_n hx hb dX12_digest_26 rfl (lv_at hl 0 rfl) ?_
            refine lv_iload_n hx hb dX12_digest_27 rfl (lv_at hl 1 rfl) ?_
            refine lv_iload_n hx hb dX12_digest_28 rfl (lv_at hl 2 rfl) ?_
            obtain ⟨r15, he15, hF⟩ := bd_s hF
            refine kS_i (va_runV (As := [.int x1_19, .int x2_19]) (rest := [.ref (ad 0)]) ⟨hx, hb, hml, hown, hts⟩ (c_X12_oneNow l hz D ad ck f19 g19 a19 x1_19 x2_19 r15 he15) (cwV 2 hts gX12_digest_X12_oneNow rfl rfl rfl ⟨rfl, pX12_oneNow⟩ ⟨Nat.le_of_ble_eq_true rfl, Nat.le_of_ble_eq_true rfl⟩) (kR.preV (va_recv hK hP (ci := 12) (q0 := 0) rfl rfl) hP (hE.kept hS hnA)) rfl rfl hl.1 rfl (lv_room (Nat.le_of_ble_eq_true rfl)) dX12_digest_29 ⟨Nat.le_refl _, Nat.le_refl _⟩) ?_
            refine lv_i2l (v := r15.toInt64) hx hb dX12_digest_32 rfl ?_
            obtain ⟨r16, he16, hF⟩ := bd_s hF
            refine kS_w (va_runV (As := [.long (r15.toInt64)]) (rest := []) ⟨hx, hb, hml, hown, hts⟩ (c_X12_mix l hz D ad ck f19 g19 a19 (r15.toInt64) r16 he16) (cwV 1 hts gX12_digest_X12_mix rfl rfl rfl ⟨rfl, pX12_mix⟩ ⟨Nat.le_of_ble_eq_true rfl, Nat.le_of_ble_eq_true rfl⟩) (kW.preV (va_recv hK hP (ci := 12) (q0 := 0) rfl rfl) hP (hE.kept hS hnA) hD hnA) rfl rfl hl.1 rfl (lv_room (Nat.le_of_ble_eq_true rfl)) dX12_digest_33 ⟨Nat.le_refl _, Nat.le_refl _⟩) hD hS rfl (fun H locs hP hD hS => ?_)
            refine lv_iinc (v := (x2_19 + 1)) (lv' := [(2, .int (x2_19 + 1)), (0, .ref (ad 0)), (1, .int x1_19)]) hx hb dX12_digest_36 hl (k := 2) rfl rfl (by decide) rfl (fun ls hl => ?_)
            refine lv_goto (tgt := 19) hx hb dX12_digest_39 (by decide) ?_
            have hF := Option.some.inj hF
            subst hF
            obtain ⟨r, hF, hp⟩ := hp
            exact ih19 r16.1 r16.2.1 r16.2.2 _ _ (x2_19 + 1) ls hP hD hS (lv_sub hl [1, 2, 0] rfl) r hF hp
      unfold B_X12_digest_9 at hF
      refine lv_iload_n hx hb dX12_digest_9 rfl (lv_at hl 1 rfl) ?_
      refine lv_aload_n hx hb dX12_digest_10 rfl (lv_at hl 0 rfl) ?_
      refine va_get (D := D) (ci := 12) (v := .int (f9 1)) (C := RX12) (T := TX12) (N := 31) hx hb hts hiX12 hown hK hP 0 rfl rfl 1 (by decide) hf83 (fun _ h9 => h9) rfl dX12_digest_11 ?_
      refine lv_icmp_ge (tgt := 80) hx hb dX12_digest_14 (by decide) (fun hc1 => ?_) (fun hc1 => ?_)
      · have hF := it_p hc1 hF
        obtain ⟨r, hF1, hr0⟩ := mp_s hF
        clear hF
        subst hr0
        have hF := hF1
        clear hF1
        have hp : (fun r => r = out) r := hp
        refine lv_iconst (v := 0) hx hb dX12_digest_80 (by decide) ?_
        refine lv_istore_n (lv' := [(1, .int 0), (0, .ref (ad 0))]) hx hb dX12_digest_81 rfl hl (by decide) rfl (fun ls hl => ?_)
        exact hN_82 kFu f9 g9 a9 _ _ 0 ls hP hD hS (lv_sub hl [1, 0] rfl) _ hF hp
      · have hF := it_n hc1 hF
        refine lv_iconst (v := 0) hx hb dX12_digest_17 (by decide) ?_
        refine lv_istore_n (lv' := [(2, .int 0), (0, .ref (ad 0)), (1, .int x1_9)]) hx hb dX12_digest_18 rfl hl (by decide) rfl (fun ls hl => ?_)
        exact hN_19 x1_9 kFu f9 g9 a9 _ _ 0 ls hP hD hS (lv_sub hl [1, 2, 0] rfl) _ hF hp
  have hl := lv_entry ([.ref (ad 0)]) (n := 3) (Nat.le_of_ble_eq_true rfl)
  rw [lg_entry_eq]
  generalize (lg_sl ([.ref (ad 0)]) ++ List.replicate (3 - (lg_sl ([.ref (ad 0)])).length) Slot.unset).toArray = ls at hl ⊢
  have hl : lv_has ls 3 [(0, .ref (ad 0))] := hl
  obtain ⟨r, hF, hp⟩ : ∃ r, F_X12_digest f0 g0 a0 = some r ∧ r = out := ⟨out, hF, rfl⟩
  unfold F_X12_digest at hF
  refine lv_aload_n hx hb dX12_digest_0 rfl (lv_at hl 0 rfl) ?_
  refine lv_ldc2 (v := 983) hx hb hown (hts (.constantLong RX12 230 (983)) (by decide +kernel)) dX12_digest_1 ?_
  refine va_put (D := D) (ci := 12) (v := .long 983) (ty := .long) (C := RX12) (T := TX12) (N := 31) hx hb hts hiX12 tyX12 tyX12_ok nmX12 hown hK hP hD hS 0 rfl rfl 30 (by decide) hf227 (fun _ h9 => h9) rfl (tyX12_ok 30 (by decide)) rfl rfl (Nat.le_of_ble_eq_true rfl) dX12_digest_4 (fun H locs hP hD hS => ?_)
  have hP := kPe (ef_wM0_30 ad ck f0 g0 a0 983) hP
  have hD := kDe (ef_wM0_30 ad ck f0 g0 a0 983) hD
  refine lv_iconst (v := 0) hx hb dX12_digest_7 (by decide) ?_
  refine lv_istore_n (lv' := [(1, .int 0), (0, .ref (ad 0))]) hx hb dX12_digest_8 rfl hl (by decide) rfl (fun ls hl => ?_)
  exact hN_9 kFu f0 (vp_updL g0 30 983) a0 _ _ 0 ls hP hD hS (lv_sub hl [1, 0] rfl) _ hF hp
