/-! ===== the reference, by program (tools/gen.py) ===== -/
def F_X12_within (p0 : Int32) (p1 : Int32) (p2 : Int32) : Int32 := if p0 < p1 then 0 else if p2 < p0 then 0 else 1
set_option maxHeartbeats 4000000 in
set_option maxRecDepth 100000 in
theorem c_X12_within (l : Launch) (hz : Nat) (D : va_G) (tys : List (ClassId × FieldType)) (p0 : Int32) (p1 : Int32) (p2 : Int32) : Met l yX12_within wsX12_within ({ frames := 0, cells := 0, slots := 0, locals := 0 }) (kR hz D vwCl tys [] [.int p0, .int p1, .int p2]) (kZb (F_X12_within p0 p1 p2)) 0 0 (fun _ => False) := by
  generalize hF : F_X12_within p0 p1 p2 = out
  refine Met.ofW (cc := cX12_within) (maxL := 3) (ret := (some .boolean)) (by decide) rfl ?_
  intro p e s m args below meth c s₁ B hml hv
  obtain ⟨rfl, hP, hE⟩ := hv
  have hx := B.exec
  have hb := B.bytes
  have hr := B.returns
  have hts := atoms_spec (ws := wsX12_within) B.pre
  have hown : s.vm.findClass RX12 = some m.cls := findClass_of_methodNamed B.named
  have hlocks := B.notSynchronized
  have hK := hE.1
  have hl := lv_entry ([.int p0, .int p1, .int p2]) (n := 3) (Nat.le_of_ble_eq_true rfl)
  rw [lg_entry_eq]
  generalize (lg_sl ([.int p0, .int p1, .int p2]) ++ List.replicate (3 - (lg_sl ([.int p0, .int p1, .int p2])).length) Slot.unset).toArray = ls at hl ⊢
  have hl : lv_has ls 3 [(0, .int p0), (1, .int p1), (2, .int p2)] := hl
  obtain ⟨r, hF, hp⟩ : ∃ r, F_X12_within p0 p1 p2 = r ∧ r = out := ⟨out, hF, rfl⟩
  unfold F_X12_within at hF
  refine lv_iload_n hx hb dX12_within_0 rfl (lv_at hl 0 rfl) ?_
  refine lv_iload_n hx hb dX12_within_1 rfl (lv_at hl 1 rfl) ?_
  refine lv_icmp_lt (tgt := 14) hx hb dX12_within_2 (by decide) (fun hc1 => ?_) (fun hc1 => ?_)
  · have hF := it_p hc1 hF
    refine lv_iconst (v := 0) hx hb dX12_within_14 (by decide) ?_
    have hv := hF.trans hp
    exact W.zret hx hb hr rfl (fun t ht hW => ⟨_, rfl, ⟨hv, by rw [← hv]; exact rfl⟩, ht⟩) (fun q hq => by cases hq) dX12_within_15
  · have hF := it_n hc1 hF
    refine lv_iload_n hx hb dX12_within_5 rfl (lv_at hl 0 rfl) ?_
    refine lv_iload_n hx hb dX12_within_6 rfl (lv_at hl 2 rfl) ?_
    refine lv_icmp_gt (tgt := 14) hx hb dX12_within_7 (by decide) (fun hc2 => ?_) (fun hc2 => ?_)
    · have hF := it_p hc2 hF
      refine lv_iconst (v := 0) hx hb dX12_within_14 (by decide) ?_
      have hv := hF.trans hp
      exact W.zret hx hb hr rfl (fun t ht hW => ⟨_, rfl, ⟨hv, by rw [← hv]; exact rfl⟩, ht⟩) (fun q hq => by cases hq) dX12_within_15
    · have hF := it_n hc2 hF
      refine lv_iconst (v := 1) hx hb dX12_within_10 (by decide) ?_
      refine lv_goto (tgt := 15) hx hb dX12_within_11 (by decide) ?_
      have hv := hF.trans hp
      exact W.zret hx hb hr rfl (fun t ht hW => ⟨_, rfl, ⟨hv, by rw [← hv]; exact rfl⟩, ht⟩) (fun q hq => by cases hq) dX12_within_15

def F_X12_isIn (p0 : Int32) (p1 : Int32) : Int32 := if ((p0 >>> (p1 &&& 31)) &&& (1 : Int32)) = 1 then 1 else 0
set_option maxHeartbeats 4000000 in
set_option maxRecDepth 100000 in
theorem c_X12_isIn (l : Launch) (hz : Nat) (D : va_G) (tys : List (ClassId × FieldType)) (p0 : Int32) (p1 : Int32) : Met l yX12_isIn wsX12_isIn ({ frames := 0, cells := 0, slots := 0, locals := 0 }) (kR hz D vwCl tys [] [.int p0, .int p1]) (kZb (F_X12_isIn p0 p1)) 0 0 (fun _ => False) := by
  generalize hF : F_X12_isIn p0 p1 = out
  refine Met.ofW (cc := cX12_isIn) (maxL := 2) (ret := (some .boolean)) (by decide) rfl ?_
  intro p e s m args below meth c s₁ B hml hv
  obtain ⟨rfl, hP, hE⟩ := hv
  have hx := B.exec
  have hb := B.bytes
  have hr := B.returns
  have hts := atoms_spec (ws := wsX12_isIn) B.pre
  have hown : s.vm.findClass RX12 = some m.cls := findClass_of_methodNamed B.named
  have hlocks := B.notSynchronized
  have hK := hE.1
  have hl := lv_entry ([.int p0, .int p1]) (n := 2) (Nat.le_of_ble_eq_true rfl)
  rw [lg_entry_eq]
  generalize (lg_sl ([.int p0, .int p1]) ++ List.replicate (2 - (lg_sl ([.int p0, .int p1])).length) Slot.unset).toArray = ls at hl ⊢
  have hl : lv_has ls 2 [(0, .int p0), (1, .int p1)] := hl
  obtain ⟨r, hF, hp⟩ : ∃ r, F_X12_isIn p0 p1 = r ∧ r = out := ⟨out, hF, rfl⟩
  unfold F_X12_isIn at hF
  refine lv_iload_n hx hb dX12_isIn_0 rfl (lv_at hl 0 rfl) ?_
  refine lv_iload_n hx hb dX12_isIn_1 rfl (lv_at hl 1 rfl) ?_
  refine lv_ishr hx hb dX12_isIn_2 ?_
  refine lv_iconst (v := 1) hx hb dX12_isIn_3 (by decide) ?_
  refine lv_iand hx hb dX12_isIn_4 ?_
  refine lv_iconst (v := 1) hx hb dX12_isIn_5 (by decide) ?_
  refine lv_icmp_ne (tgt := 13) hx hb dX12_isIn_6 (by decide) (fun hc1 => ?_) (fun hc1 => ?_)
  · have hF := it_n hc1 hF
    refine lv_iconst (v := 0) hx hb dX12_isIn_13 (by decide) ?_
    have hv := hF.trans hp
    exact W.zret hx hb hr rfl (fun t ht hW => ⟨_, rfl, ⟨hv, by rw [← hv]; exact rfl⟩, ht⟩) (fun q hq => by cases hq) dX12_isIn_14
  · have hF := it_p hc1 hF
    refine lv_iconst (v := 1) hx hb dX12_isIn_9 (by decide) ?_
    refine lv_goto (tgt := 14) hx hb dX12_isIn_10 (by decide) ?_
    have hv := hF.trans hp
    exact W.zret hx hb hr rfl (fun t ht hW => ⟨_, rfl, ⟨hv, by rw [← hv]; exact rfl⟩, ht⟩) (fun q hq => by cases hq) dX12_isIn_14

def B_X12_size_4 (x0_4 : Int32) (x1_4 : Int32) (x2_4 : Int32) : Option ((Int32 × Int32) ⊕ Int32) := if 5 ≤ x2_4 then Option.map Sum.inr (some x1_4) else some (.inl ((x1_4 + ((x0_4 >>> (x2_4 &&& 31)) &&& (1 : Int32))), (x2_4 + 1)))
def N_X12_size_4 (x0_4 : Int32) (x1_4 : Int32) (x2_4 : Int32) : Option Int32 := lpN (fun q4 : (Int32 × Int32) => B_X12_size_4 x0_4 q4.1 q4.2) kFu (x1_4, x2_4)
def F_X12_size (p0 : Int32) : Option Int32 := N_X12_size_4 p0 0 0
set_option maxHeartbeats 4000000 in
set_option maxRecDepth 100000 in
theorem c_X12_size (l : Launch) (hz : Nat) (D : va_G) (tys : List (ClassId × FieldType)) (p0 : Int32) (out : Int32) (hF : F_X12_size p0 = some out) : Met l yX12_size wsX12_size ({ frames := 0, cells := 0, slots := 0, locals := 0 }) (kR hz D vwCl tys [] [.int p0]) (kZi out) 0 0 (fun _ => False) := by
  refine Met.ofW (cc := cX12_size) (maxL := 3) (ret := (some .int)) (by decide) rfl ?_
  intro p e s m args below meth c s₁ B hml hv
  obtain ⟨rfl, hP, hE⟩ := hv
  have hx := B.exec
  have hb := B.bytes
  have hr := B.returns
  have hts := atoms_spec (ws := wsX12_size) B.pre
  have hown : s.vm.findClass RX12 = some m.cls := findClass_of_methodNamed B.named
  have hlocks := B.notSynchronized
  have hK := hE.1
  have hN_4 : ∀ (x0_4 : Int32) (n4 : Nat) (x1_4 : Int32) (x2_4 : Int32) (ls : Array Slot), lv_has ls 3 [(0, .int x0_4), (1, .int x1_4), (2, .int x2_4)] → ∀ r : Int32, lpN (fun q4 : (Int32 × Int32) => B_X12_size_4 x0_4 q4.1 q4.2) n4 (x1_4, x2_4) = some r → (fun r => r = out) r → W p l e (headSpec wsX12_size ({ frames := 0, cells := 0, slots := 0, locals := 0 })).room s m [.int p0].toArray below meth c s.heap [] 0 0 (MQ below (kZi out) [.int p0].toArray s 0 0 (fun _ => False)) (F0 m 4 ls []) := by
    intro x0_4 n4
    induction n4 with
    | zero => intro x1_4 x2_4 ls hl r hF hp; exact (lp_z hF).elim
    | succ n4 ih4 =>
      intro x1_4 x2_4 ls hl r hF hp
      obtain ⟨rs, hF, hp⟩ := lpN_K (P := (fun r => r = out)) hF hp
      unfold B_X12_size_4 at hF
      refine lv_iload_n hx hb dX12_size_4 rfl (lv_at hl 2 rfl) ?_
      refine lv_iconst (v := 5) hx hb dX12_size_5 (by decide) ?_
      refine lv_icmp_ge (tgt := 23) hx hb dX12_size_6 (by decide) (fun hc1 => ?_) (fun hc1 => ?_)
      · have hF := it_p hc1 hF
        obtain ⟨r, hF1, hr0⟩ := mp_s hF
        clear hF
        subst hr0
        have hF := hF1
        clear hF1
        have hp : (fun r => r = out) r := hp
        refine lv_iload_n hx hb dX12_size_23 rfl (lv_at hl 1 rfl) ?_
        exact W.iret hx hb hr (fun t ht hW => ⟨_, rfl, (Option.some.inj hF).trans hp, ht⟩) (fun q hq => by cases hq) dX12_size_24
      · have hF := it_n hc1 hF
        refine lv_iload_n hx hb dX12_size_9 rfl (lv_at hl 1 rfl) ?_
        refine lv_iload_n hx hb dX12_size_10 rfl (lv_at hl 0 rfl) ?_
        refine lv_iload_n hx hb dX12_size_11 rfl (lv_at hl 2 rfl) ?_
        refine lv_ishr hx hb dX12_size_12 ?_
        refine lv_iconst (v := 1) hx hb dX12_size_13 (by decide) ?_
        refine lv_iand hx hb dX12_size_14 ?_
        refine lv_iadd hx hb dX12_size_15 ?_
        refine lv_istore_n (lv' := [(1, .int (x1_4 + ((x0_4 >>> (x2_4 &&& 31)) &&& (1 : Int32)))), (0, .int x0_4), (2, .int x2_4)]) hx hb dX12_size_16 rfl hl (by decide) rfl (fun ls hl => ?_)
        refine lv_iinc (v := (x2_4 + 1)) (lv' := [(2, .int (x2_4 + 1)), (1, .int (x1_4 + ((x0_4 >>> (x2_4 &&& 31)) &&& (1 : Int32)))), (0, .int x0_4)]) hx hb dX12_size_17 hl (k := 2) rfl rfl (by decide) rfl (fun ls hl => ?_)
        refine lv_goto (tgt := 4) hx hb dX12_size_20 (by decide) ?_
        have hF := Option.some.inj hF
        subst hF
        obtain ⟨r, hF, hp⟩ := hp
        exact ih4 (x1_4 + ((x0_4 >>> (x2_4 &&& 31)) &&& (1 : Int32))) (x2_4 + 1) ls (lv_sub hl [2, 1, 0] rfl) r hF hp
  have hl := lv_entry ([.int p0]) (n := 3) (Nat.le_of_ble_eq_true rfl)
  rw [lg_entry_eq]
  generalize (lg_sl ([.int p0]) ++ List.replicate (3 - (lg_sl ([.int p0])).length) Slot.unset).toArray = ls at hl ⊢
  have hl : lv_has ls 3 [(0, .int p0)] := hl
  obtain ⟨r, hF, hp⟩ : ∃ r, F_X12_size p0 = some r ∧ r = out := ⟨out, hF, rfl⟩
  unfold F_X12_size at hF
  refine lv_iconst (v := 0) hx hb dX12_size_0 (by decide) ?_
  refine lv_istore_n (lv' := [(1, .int 0), (0, .int p0)]) hx hb dX12_size_1 rfl hl (by decide) rfl (fun ls hl => ?_)
  refine lv_iconst (v := 0) hx hb dX12_size_2 (by decide) ?_
  refine lv_istore_n (lv' := [(2, .int 0), (1, .int 0), (0, .int p0)]) hx hb dX12_size_3 rfl hl (by decide) rfl (fun ls hl => ?_)
  exact hN_4 p0 kFu 0 0 ls (lv_sub hl [2, 1, 0] rfl) _ hF hp

def F_X12_letter (f0 : Nat → Int32) (g0 : Nat → Int64) (a0 : Nat → Nat → Int32) (p1 : Int32) : Option (Int32 × ST) := if (F_X12_within p1 32 126) = 0 then some ((-102), f0, g0, a0) else if (f0 14) = 21 then some ((-104), f0, g0, a0) else gd (inB (f0 14) 21) (some (((upd f0 14 ((f0 14) + (1 : Int32))) 14), (upd f0 14 ((f0 14) + (1 : Int32))), g0, (ua a0 15 (f0 14).toNatClampNeg (vp_nar .byte (p1.toInt8.toInt32)))))
set_option maxHeartbeats 4000000 in
set_option maxRecDepth 100000 in
theorem c_X12_letter (l : Launch) (hz : Nat) (D : va_G) (ad : Nat → Nat) (ck : Nat → ClassId) (f0 : Nat → Int32) (g0 : Nat → Int64) (a0 : Nat → Nat → Int32) (p1 : Int32) (out : (Int32 × ST)) (hF : F_X12_letter f0 g0 a0 p1 = some out) : Met l yX12_letter wsX12_letter ({ frames := 1, cells := 0, slots := 0, locals := 22 }) (kW hz D vwCl (tM ck) (wM ad ck f0 g0 a0) [.ref (ad 0), .int p1]) (kQ D vwCl (some (.int out.1)) (wM ad ck f0 g0 a0) (wM ad ck out.2.1 out.2.2.1 out.2.2.2)) 0 0 (kAd (wM ad ck f0 g0 a0)) := by
  refine Met.ofW (cc := cX12_letter) (maxL := 2) (ret := (some .int)) (by decide) rfl ?_
  intro p e s m args below meth c s₁ B hml hv
  obtain ⟨rfl, hP, hE, hD0⟩ := hv
  have hx := B.exec
  have hb := B.bytes
  have hr := B.returns
  have hts := atoms_spec (ws := wsX12_letter) B.pre
  have hown : s.vm.findClass RX12 = some m.cls := findClass_of_methodNamed B.named
  have hlocks := B.notSynchronized
  have hK := hE.1
  have hnA := kAd_up hD0
  have hD := kD_self hD0
  have hS : va_S (kAd (wM ad ck f0 g0 a0)) s.heap s.heap [] := va_S.rf
  have hiX12 : ∀ w ∈ u_ws RX12 TX12 31, w ∈ wsX12_letter := by decide +kernel
  have hf31 := hts (.fieldLink RX12 31 "SpeltByFriendsModel" "page" "[B") (by decide +kernel)
  have hf63 := hts (.fieldLink RX12 63 "SpeltByFriendsModel" "pageLength" "I") (by decide +kernel)
  have hl := lv_entry ([.ref (ad 0), .int p1]) (n := 2) (Nat.le_of_ble_eq_true rfl)
  rw [lg_entry_eq]
  generalize (lg_sl ([.ref (ad 0), .int p1]) ++ List.replicate (2 - (lg_sl ([.ref (ad 0), .int p1])).length) Slot.unset).toArray = ls at hl ⊢
  have hl : lv_has ls 2 [(0, .ref (ad 0)), (1, .int p1)] := hl
  obtain ⟨r, hF, hp⟩ : ∃ r, F_X12_letter f0 g0 a0 p1 = some r ∧ r = out := ⟨out, hF, rfl⟩
  unfold F_X12_letter at hF
  refine lv_iload_n hx hb dX12_letter_0 rfl (lv_at hl 1 rfl) ?_
  refine lv_bipush (v := 32) hx hb dX12_letter_1 (by decide) ?_
  refine lv_bipush (v := 126) hx hb dX12_letter_3 (by decide) ?_
  refine kS_b (va_runS (As := [.int p1, .int 32, .int 126]) (rest := []) ⟨hx, hb, hml, hown, hts⟩ (c_X12_within l hz D (tM ck) p1 32 126) (va_cwS 3 hts gX12_letter_X12_within rfl rfl rfl pX12_within ⟨Nat.le_of_ble_eq_true rfl, Nat.le_of_ble_eq_true rfl⟩) (kR.preS kP_nil (hE.kept hS hnA)) rfl rfl hl.1 rfl (lv_room (Nat.le_of_ble_eq_true rfl)) dX12_letter_5 ⟨Nat.le_refl _, Nat.le_refl _⟩) (fun hz1 => ?_)
  refine lv_if_ne (tgt := 14) hx hb dX12_letter_8 (by decide) (fun hc2 => ?_) (fun hc2 => ?_)
  · have hF := it_n hc2 hF
    refine lv_aload_n hx hb dX12_letter_14 rfl (lv_at hl 0 rfl) ?_
    refine va_get (D := D) (ci := 12) (v := .int (f0 14)) (C := RX12) (T := TX12) (N := 31) hx hb hts hiX12 hown hK hP 0 rfl rfl 14 (by decide) hf63 (fun _ h9 => h9) rfl dX12_letter_15 ?_
    refine lv_bipush (v := 21) hx hb dX12_letter_18 (by decide) ?_
    refine lv_icmp_ne (tgt := 26) hx hb dX12_letter_20 (by decide) (fun hc3 => ?_) (fun hc3 => ?_)
    · have hF := it_n hc3 hF
      refine lv_aload_n hx hb dX12_letter_26 rfl (lv_at hl 0 rfl) ?_
      refine va_get (D := D) (ci := 12) (v := .ref (ad 15)) (C := RX12) (T := TX12) (N := 31) hx hb hts hiX12 hown hK hP 0 rfl rfl 15 (by decide) hf31 (fun _ h9 => h9) rfl dX12_letter_27 ?_
      refine lv_aload_n hx hb dX12_letter_30 rfl (lv_at hl 0 rfl) ?_
      refine va_get (D := D) (ci := 12) (v := .int (f0 14)) (C := RX12) (T := TX12) (N := 31) hx hb hts hiX12 hown hK hP 0 rfl rfl 14 (by decide) hf63 (fun _ h9 => h9) rfl dX12_letter_31 ?_
      refine lv_iload_n hx hb dX12_letter_34 rfl (lv_at hl 1 rfl) ?_
      refine lv_i2b (v := p1.toInt8.toInt32) hx hb dX12_letter_35 rfl ?_
      obtain ⟨hg4, hF⟩ := gd_s hF
      refine va_bast hx hb hK hP hD hS 8 7 rfl rfl (inB_in hg4) dX12_letter_36 (fun H locs hP hD hS => ?_)
      have hP := kPe (eu_wM15 ad ck f0 g0 a0 (f0 14).toNatClampNeg (vp_nar .byte (p1.toInt8.toInt32))) hP
      have hD := kDe (eu_wM15 ad ck f0 g0 a0 (f0 14).toNatClampNeg (vp_nar .byte (p1.toInt8.toInt32))) hD
      refine lv_aload_n hx hb dX12_letter_37 rfl (lv_at hl 0 rfl) ?_
      refine lv_dup hx hb dX12_letter_38 rfl ?_
      refine va_get (D := D) (ci := 12) (v := .int (f0 14)) (C := RX12) (T := TX12) (N := 31) hx hb hts hiX12 hown hK hP 0 rfl rfl 14 (by decide) hf63 (fun _ h9 => h9) rfl dX12_letter_39 ?_
      refine lv_iconst (v := 1) hx hb dX12_letter_42 (by decide) ?_
      refine lv_iadd hx hb dX12_letter_43 ?_
      refine va_put (D := D) (ci := 12) (v := .int ((f0 14) + (1 : Int32))) (ty := .int) (C := RX12) (T := TX12) (N := 31) hx hb hts hiX12 tyX12 tyX12_ok nmX12 hown hK hP hD hS 0 rfl rfl 14 (by decide) hf63 (fun _ h9 => h9) rfl (tyX12_ok 14 (by decide)) rfl rfl (Nat.le_of_ble_eq_true rfl) dX12_letter_44 (fun H locs hP hD hS => ?_)
      have hP := kPe (ef_wM0_14 ad ck f0 g0 (ua a0 15 (f0 14).toNatClampNeg (vp_nar .byte (p1.toInt8.toInt32))) ((f0 14) + (1 : Int32))) hP
      have hD := kDe (ef_wM0_14 ad ck f0 g0 (ua a0 15 (f0 14).toNatClampNeg (vp_nar .byte (p1.toInt8.toInt32))) ((f0 14) + (1 : Int32))) hD
      refine lv_aload_n hx hb dX12_letter_47 rfl (lv_at hl 0 rfl) ?_
      refine va_get (D := D) (ci := 12) (v := .int ((upd f0 14 ((f0 14) + (1 : Int32))) 14)) (C := RX12) (T := TX12) (N := 31) hx hb hts hiX12 hown hK hP 0 rfl rfl 14 (by decide) hf63 (fun _ h9 => h9) rfl dX12_letter_48 ?_
      have hF := (Option.some.inj hF).trans hp
      subst hF
      exact W.iret hx hb hr (fun t ht hW => ⟨rfl, by rw [ht]; exact hP, hS.F ht⟩) hS.2.2 dX12_letter_51
    · have hF := it_p hc3 hF
      refine lv_bipush (v := (-104)) hx hb dX12_letter_23 (by decide) ?_
      have hF := (Option.some.inj hF).trans hp
      subst hF
      exact W.iret hx hb hr (fun t ht hW => ⟨rfl, by rw [ht]; exact hP, hS.F ht⟩) hS.2.2 dX12_letter_25
  · have hF := it_p hc2 hF
    refine lv_bipush (v := (-102)) hx hb dX12_letter_11 (by decide) ?_
    have hF := (Option.some.inj hF).trans hp
    subst hF
    exact W.iret hx hb hr (fun t ht hW => ⟨rfl, by rw [ht]; exact hP, hS.F ht⟩) hS.2.2 dX12_letter_13

def F_X12_blank (f0 : Nat → Int32) (g0 : Nat → Int64) (a0 : Nat → Nat → Int32) : Option (Int32 × ST) := some ((f0 14), (upd f0 14 0), g0, a0)
set_option maxHeartbeats 4000000 in
set_option maxRecDepth 100000 in
theorem c_X12_blank (l : Launch) (hz : Nat) (D : va_G) (ad : Nat → Nat) (ck : Nat → ClassId) (f0 : Nat → Int32) (g0 : Nat → Int64) (a0 : Nat → Nat → Int32) (out : (Int32 × ST)) (hF : F_X12_blank f0 g0 a0 = some out) : Met l yX12_blank wsX12_blank ({ frames := 0, cells := 0, slots := 0, locals := 0 }) (kW hz D vwCl (tM ck) (wM ad ck f0 g0 a0) [.ref (ad 0)]) (kQ D vwCl (some (.int out.1)) (wM ad ck f0 g0 a0) (wM ad ck out.2.1 out.2.2.1 out.2.2.2)) 0 0 (kAd (wM ad ck f0 g0 a0)) := by
  refine Met.ofW (cc := cX12_blank) (maxL := 2) (ret := (some .int)) (by decide) rfl ?_
  intro p e s m args below meth c s₁ B hml hv
  obtain ⟨rfl, hP, hE, hD0⟩ := hv
  have hx := B.exec
  have hb := B.bytes
  have hr := B.returns
  have hts := atoms_spec (ws := wsX12_blank) B.pre
  have hown : s.vm.findClass RX12 = some m.cls := findClass_of_methodNamed B.named
  have hlocks := B.notSynchronized
  have hK := hE.1
  have hnA := kAd_up hD0
  have hD := kD_self hD0
  have hS : va_S (kAd (wM ad ck f0 g0 a0)) s.heap s.heap [] := va_S.rf
  have hiX12 : ∀ w ∈ u_ws RX12 TX12 31, w ∈ wsX12_blank := by decide +kernel
  have hf63 := hts (.fieldLink RX12 63 "SpeltByFriendsModel" "pageLength" "I") (by decide +kernel)
  have hl := lv_entry ([.ref (ad 0)]) (n := 2) (Nat.le_of_ble_eq_true rfl)
  rw [lg_entry_eq]
  generalize (lg_sl ([.ref (ad 0)]) ++ List.replicate (2 - (lg_sl ([.ref (ad 0)])).length) Slot.unset).toArray = ls at hl ⊢
  have hl : lv_has ls 2 [(0, .ref (ad 0))] := hl
  obtain ⟨r, hF, hp⟩ : ∃ r, F_X12_blank f0 g0 a0 = some r ∧ r = out := ⟨out, hF, rfl⟩
  unfold F_X12_blank at hF
  refine lv_aload_n hx hb dX12_blank_0 rfl (lv_at hl 0 rfl) ?_
  refine va_get (D := D) (ci := 12) (v := .int (f0 14)) (C := RX12) (T := TX12) (N := 31) hx hb hts hiX12 hown hK hP 0 rfl rfl 14 (by decide) hf63 (fun _ h9 => h9) rfl dX12_blank_1 ?_
  refine lv_istore_n (lv' := [(1, .int (f0 14)), (0, .ref (ad 0))]) hx hb dX12_blank_4 rfl hl (by decide) rfl (fun ls hl => ?_)
  refine lv_aload_n hx hb dX12_blank_5 rfl (lv_at hl 1 rfl) ?_
  refine lv_iconst (v := 0) hx hb dX12_blank_6 (by decide) ?_
  refine va_put (D := D) (ci := 12) (v := .int 0) (ty := .int) (C := RX12) (T := TX12) (N := 31) hx hb hts hiX12 tyX12 tyX12_ok nmX12 hown hK hP hD hS 0 rfl rfl 14 (by decide) hf63 (fun _ h9 => h9) rfl (tyX12_ok 14 (by decide)) rfl rfl (Nat.le_of_ble_eq_true rfl) dX12_blank_7 (fun H locs hP hD hS => ?_)
  have hP := kPe (ef_wM0_14 ad ck f0 g0 a0 0) hP
  have hD := kDe (ef_wM0_14 ad ck f0 g0 a0 0) hD
  refine lv_iload_n hx hb dX12_blank_10 rfl (lv_at hl 0 rfl) ?_
  have hF := (Option.some.inj hF).trans hp
  subst hF
  exact W.iret hx hb hr (fun t ht hW => ⟨rfl, by rw [ht]; exact hP, hS.F ht⟩) hS.2.2 dX12_blank_11

def F_X12_kindBy (p0 : Int32) : Int32 := if p0 = 102 then 2 else (if p0 = 103 then (-1) else (if p0 = 104 then 1 else (if p0 = 105 then (-1) else (if p0 = 106 then (-1) else (if p0 = 107 then (-1) else (if p0 = 108 then (-1) else (if p0 = 109 then (-1) else (if p0 = 110 then (-1) else (if p0 = 111 then (-1) else (if p0 = 112 then 0 else (if p0 = 113 then (-1) else (if p0 = 114 then 3 else (if p0 = 115 then (-1) else (if p0 = 116 then 4 else ((-1))))))))))))))))
set_option maxHeartbeats 4000000 in
set_option maxRecDepth 100000 in
theorem c_X12_kindBy (l : Launch) (hz : Nat) (D : va_G) (tys : List (ClassId × FieldType)) (p0 : Int32) : Met l yX12_kindBy wsX12_kindBy ({ frames := 0, cells := 0, slots := 0, locals := 0 }) (kR hz D vwCl tys [] [.int p0]) (kZi (F_X12_kindBy p0)) 0 0 (fun _ => False) := by
  generalize hF : F_X12_kindBy p0 = out
  refine Met.ofW (cc := cX12_kindBy) (maxL := 1) (ret := (some .int)) (by decide) rfl ?_
  intro p e s m args below meth c s₁ B hml hv
  obtain ⟨rfl, hP, hE⟩ := hv
  have hx := B.exec
  have hb := B.bytes
  have hr := B.returns
  have hts := atoms_spec (ws := wsX12_kindBy) B.pre
  have hown : s.vm.findClass RX12 = some m.cls := findClass_of_methodNamed B.named
  have hlocks := B.notSynchronized
  have hK := hE.1
  have hl := lv_entry ([.int p0]) (n := 1) (Nat.le_of_ble_eq_true rfl)
  rw [lg_entry_eq]
  generalize (lg_sl ([.int p0]) ++ List.replicate (1 - (lg_sl ([.int p0])).length) Slot.unset).toArray = ls at hl ⊢
  have hl : lv_has ls 1 [(0, .int p0)] := hl
  obtain ⟨r, hF, hp⟩ : ∃ r, F_X12_kindBy p0 = r ∧ r = out := ⟨out, hF, rfl⟩
  unfold F_X12_kindBy at hF
  refine lv_iload_n hx hb dX12_kindBy_0 rfl (lv_at hl 0 rfl) ?_
  by_cases hc1 : p0 = 102
  · have hF := it_p hc1 hF
    refine lv_tableIn (tgt := 80) (off := 79) hx hb dX12_kindBy_1 (by rw [hc1]; decide) (by rw [hc1]; decide) (by rw [hc1]; rfl) (by decide) ?_
    refine lv_iconst (v := 2) hx hb dX12_kindBy_80 (by decide) ?_
    exact W.iret hx hb hr (fun t ht hW => ⟨_, rfl, hF.trans hp, ht⟩) (fun q hq => by cases hq) dX12_kindBy_81
  have hF := it_n hc1 hF
  by_cases hc2 : p0 = 103
  · have hF := it_p hc2 hF
    refine lv_tableIn (tgt := 86) (off := 85) hx hb dX12_kindBy_1 (by rw [hc2]; decide) (by rw [hc2]; decide) (by rw [hc2]; rfl) (by decide) ?_
    refine lv_iconst (v := (-1)) hx hb dX12_kindBy_86 (by decide) ?_
    exact W.iret hx hb hr (fun t ht hW => ⟨_, rfl, hF.trans hp, ht⟩) (fun q hq => by cases hq) dX12_kindBy_87
  have hF := it_n hc2 hF
  by_cases hc3 : p0 = 104
  · have hF := it_p hc3 hF
    refine lv_tableIn (tgt := 78) (off := 77) hx hb dX12_kindBy_1 (by rw [hc3]; decide) (by rw [hc3]; decide) (by rw [hc3]; rfl) (by decide) ?_
    refine lv_iconst (v := 1) hx hb dX12_kindBy_78 (by decide) ?_
    exact W.iret hx hb hr (fun t ht hW => ⟨_, rfl, hF.trans hp, ht⟩) (fun q hq => by cases hq) dX12_kindBy_79
  have hF := it_n hc3 hF
  by_cases hc4 : p0 = 105
  · have hF := it_p hc4 hF
    refine lv_tableIn (tgt := 86) (off := 85) hx hb dX12_kindBy_1 (by rw [hc4]; decide) (by rw [hc4]; decide) (by rw [hc4]; rfl) (by decide) ?_
    refine lv_iconst (v := (-1)) hx hb dX12_kindBy_86 (by decide) ?_
    exact W.iret hx hb hr (fun t ht hW => ⟨_, rfl, hF.trans hp, ht⟩) (fun q hq => by cases hq) dX12_kindBy_87
  have hF := it_n hc4 hF
  by_cases hc5 : p0 = 106
  · have hF := it_p hc5 hF
    refine lv_tableIn (tgt := 86) (off := 85) hx hb dX12_kindBy_1 (by rw [hc5]; decide) (by rw [hc5]; decide) (by rw [hc5]; rfl) (by decide) ?_
    refine lv_iconst (v := (-1)) hx hb dX12_kindBy_86 (by decide) ?_
    exact W.iret hx hb hr (fun t ht hW => ⟨_, rfl, hF.trans hp, ht⟩) (fun q hq => by cases hq) dX12_kindBy_87
  have hF := it_n hc5 hF
  by_cases hc6 : p0 = 107
  · have hF := it_p hc6 hF
    refine lv_tableIn (tgt := 86) (off := 85) hx hb dX12_kindBy_1 (by rw [hc6]; decide) (by rw [hc6]; decide) (by rw [hc6]; rfl) (by decide) ?_
    refine lv_iconst (v := (-1)) hx hb dX12_kindBy_86 (by decide) ?_
    exact W.iret hx hb hr (fun t ht hW => ⟨_, rfl, hF.trans hp, ht⟩) (fun q hq => by cases hq) dX12_kindBy_87
  have hF := it_n hc6 hF
  by_cases hc7 : p0 = 108
  · have hF := it_p hc7 hF
    refine lv_tableIn (tgt := 86) (off := 85) hx hb dX12_kindBy_1 (by rw [hc7]; decide) (by rw [hc7]; decide) (by rw [hc7]; rfl) (by decide) ?_
    refine lv_iconst (v := (-1)) hx hb dX12_kindBy_86 (by decide) ?_
    exact W.iret hx hb hr (fun t ht hW => ⟨_, rfl, hF.trans hp, ht⟩) (fun q hq => by cases hq) dX12_kindBy_87
  have hF := it_n hc7 hF
  by_cases hc8 : p0 = 109
  · have hF := it_p hc8 hF
    refine lv_tableIn (tgt := 86) (off := 85) hx hb dX12_kindBy_1 (by rw [hc8]; decide) (by rw [hc8]; decide) (by rw [hc8]; rfl) (by decide) ?_
    refine lv_iconst (v := (-1)) hx hb dX12_kindBy_86 (by decide) ?_
    exact W.iret hx hb hr (fun t ht hW => ⟨_, rfl, hF.trans hp, ht⟩) (fun q hq => by cases hq) dX12_kindBy_87
  have hF := it_n hc8 hF
  by_cases hc9 : p0 = 110
  · have hF := it_p hc9 hF
    refine lv_tableIn (tgt := 86) (off := 85) hx hb dX12_kindBy_1 (by rw [hc9]; decide) (by rw [hc9]; decide) (by rw [hc9]; rfl) (by decide) ?_
    refine lv_iconst (v := (-1)) hx hb dX12_kindBy_86 (by decide) ?_
    exact W.iret hx hb hr (fun t ht hW => ⟨_, rfl, hF.trans hp, ht⟩) (fun q hq => by cases hq) dX12_kindBy_87
  have hF := it_n hc9 hF
  by_cases hc10 : p0 = 111
  · have hF := it_p hc10 hF
    refine lv_tableIn (tgt := 86) (off := 85) hx hb dX12_kindBy_1 (by rw [hc10]; decide) (by rw [hc10]; decide) (by rw [hc10]; rfl) (by decide) ?_
    refine lv_iconst (v := (-1)) hx hb dX12_kindBy_86 (by decide) ?_
    exact W.iret hx hb hr (fun t ht hW => ⟨_, rfl, hF.trans hp, ht⟩) (fun q hq => by cases hq) dX12_kindBy_87
  have hF := it_n hc10 hF
  by_cases hc11 : p0 = 112
  · have hF := it_p hc11 hF
    refine lv_tableIn (tgt := 76) (off := 75) hx hb dX12_kindBy_1 (by rw [hc11]; decide) (by rw [hc11]; decide) (by rw [hc11]; rfl) (by decide) ?_
    refine lv_iconst (v := 0) hx hb dX12_kindBy_76 (by decide) ?_
    exact W.iret hx hb hr (fun t ht hW => ⟨_, rfl, hF.trans hp, ht⟩) (fun q hq => by cases hq) dX12_kindBy_77
  have hF := it_n hc11 hF
  by_cases hc12 : p0 = 113
  · have hF := it_p hc12 hF
    refine lv_tableIn (tgt := 86) (off := 85) hx hb dX12_kindBy_1 (by rw [hc12]; decide) (by rw [hc12]; decide) (by rw [hc12]; rfl) (by decide) ?_
    refine lv_iconst (v := (-1)) hx hb dX12_kindBy_86 (by decide) ?_
    exact W.iret hx hb hr (fun t ht hW => ⟨_, rfl, hF.trans hp, ht⟩) (fun q hq => by cases hq) dX12_kindBy_87
  have hF := it_n hc12 hF
  by_cases hc13 : p0 = 114
  · have hF := it_p hc13 hF
    refine lv_tableIn (tgt := 82) (off := 81) hx hb dX12_kindBy_1 (by rw [hc13]; decide) (by rw [hc13]; decide) (by rw [hc13]; rfl) (by decide) ?_
    refine lv_iconst (v := 3) hx hb dX12_kindBy_82 (by decide) ?_
    exact W.iret hx hb hr (fun t ht hW => ⟨_, rfl, hF.trans hp, ht⟩) (fun q hq => by cases hq) dX12_kindBy_83
  have hF := it_n hc13 hF
  by_cases hc14 : p0 = 115
  · have hF := it_p hc14 hF
    refine lv_tableIn (tgt := 86) (off := 85) hx hb dX12_kindBy_1 (by rw [hc14]; decide) (by rw [hc14]; decide) (by rw [hc14]; rfl) (by decide) ?_
    refine lv_iconst (v := (-1)) hx hb dX12_kindBy_86 (by decide) ?_
    exact W.iret hx hb hr (fun t ht hW => ⟨_, rfl, hF.trans hp, ht⟩) (fun q hq => by cases hq) dX12_kindBy_87
  have hF := it_n hc14 hF
  by_cases hc15 : p0 = 116
  · have hF := it_p hc15 hF
    refine lv_tableIn (tgt := 84) (off := 83) hx hb dX12_kindBy_1 (by rw [hc15]; decide) (by rw [hc15]; decide) (by rw [hc15]; rfl) (by decide) ?_
    refine lv_iconst (v := 4) hx hb dX12_kindBy_84 (by decide) ?_
    exact W.iret hx hb hr (fun t ht hW => ⟨_, rfl, hF.trans hp, ht⟩) (fun q hq => by cases hq) dX12_kindBy_85
  have hF := it_n hc15 hF
  refine lv_tableOut (tgt := 86) hx hb dX12_kindBy_1 (by have z0 := lv_neT (a := 102) hc1 (by decide); have z1 := lv_neT (a := 103) hc2 (by decide); have z2 := lv_neT (a := 104) hc3 (by decide); have z3 := lv_neT (a := 105) hc4 (by decide); have z4 := lv_neT (a := 106) hc5 (by decide); have z5 := lv_neT (a := 107) hc6 (by decide); have z6 := lv_neT (a := 108) hc7 (by decide); have z7 := lv_neT (a := 109) hc8 (by decide); have z8 := lv_neT (a := 110) hc9 (by decide); have z9 := lv_neT (a := 111) hc10 (by decide); have z10 := lv_neT (a := 112) hc11 (by decide); have z11 := lv_neT (a := 113) hc12 (by decide); have z12 := lv_neT (a := 114) hc13 (by decide); have z13 := lv_neT (a := 115) hc14 (by decide); have z14 := lv_neT (a := 116) hc15 (by decide); omega) (by decide) ?_
  refine lv_iconst (v := (-1)) hx hb dX12_kindBy_86 (by decide) ?_
  exact W.iret hx hb hr (fun t ht hW => ⟨_, rfl, hF.trans hp, ht⟩) (fun q hq => by cases hq) dX12_kindBy_87

def F_X12_isGood (f0 : Nat → Int32) (g0 : Nat → Int64) (a0 : Nat → Nat → Int32) (p1 : Int32) : Option Int32 := gd (inB p1 21) (if (p1 - p1 / 4 * 4) = 0 then if (F_X12_kindBy (a0 15 p1.toNatClampNeg)) = (-1) then some 0 else some 1 else (if (p1 - p1 / 4 * 4) = 3 then if (a0 15 p1.toNatClampNeg) = 44 then if 19 ≤ p1 then some 0 else some 1 else some 0 else (some (F_X12_within ((a0 15 p1.toNatClampNeg) - (48 : Int32)) 0 4))))
set_option maxHeartbeats 4000000 in
set_option maxRecDepth 100000 in
theorem c_X12_isGood (l : Launch) (hz : Nat) (D : va_G) (ad : Nat → Nat) (ck : Nat → ClassId) (f0 : Nat → Int32) (g0 : Nat → Int64) (a0 : Nat → Nat → Int32) (p1 : Int32) (out : Int32) (hF : F_X12_isGood f0 g0 a0 p1 = some out) : Met l yX12_isGood wsX12_isGood ({ frames := 1, cells := 0, slots := 0, locals := 22 }) (kR hz D vwCl (tM ck) (wM ad ck f0 g0 a0) [.ref (ad 0), .int p1]) (kZb out) 0 0 (fun _ => False) := by
  refine Met.ofW (cc := cX12_isGood) (maxL := 3) (ret := (some .boolean)) (by decide) rfl ?_
  intro p e s m args below meth c s₁ B hml hv
  obtain ⟨rfl, hP, hE⟩ := hv
  have hx := B.exec
  have hb := B.bytes
  have hr := B.returns
  have hts := atoms_spec (ws := wsX12_isGood) B.pre
  have hown : s.vm.findClass RX12 = some m.cls := findClass_of_methodNamed B.named
  have hlocks := B.notSynchronized
  have hK := hE.1
  have hiX12 : ∀ w ∈ u_ws RX12 TX12 31, w ∈ wsX12_isGood := by decide +kernel
  have hf31 := hts (.fieldLink RX12 31 "SpeltByFriendsModel" "page" "[B") (by decide +kernel)
  have hl := lv_entry ([.ref (ad 0), .int p1]) (n := 3) (Nat.le_of_ble_eq_true rfl)
  rw [lg_entry_eq]
  generalize (lg_sl ([.ref (ad 0), .int p1]) ++ List.replicate (3 - (lg_sl ([.ref (ad 0), .int p1])).length) Slot.unset).toArray = ls at hl ⊢
  have hl : lv_has ls 3 [(0, .ref (ad 0)), (1, .int p1)] := hl
  obtain ⟨r, hF, hp⟩ : ∃ r, F_X12_isGood f0 g0 a0 p1 = some r ∧ r = out := ⟨out, hF, rfl⟩
  unfold F_X12_isGood at hF
  refine lv_aload_n hx hb dX12_isGood_0 rfl (lv_at hl 0 rfl) ?_
  refine va_get (D := D) (ci := 12) (v := .ref (ad 15)) (C := RX12) (T := TX12) (N := 31) hx hb hts hiX12 hown hK hP 0 rfl rfl 15 (by decide) hf31 (fun _ h9 => h9) rfl dX12_isGood_1 ?_
  refine lv_iload_n hx hb dX12_isGood_4 rfl (lv_at hl 1 rfl) ?_
  obtain ⟨hg1, hF⟩ := gd_s hF
  refine va_bald hx hb hK hP 8 7 rfl rfl (inB_in hg1) dX12_isGood_5 ?_
  refine lv_istore_n (lv' := [(2, .int (a0 15 p1.toNatClampNeg)), (0, .ref (ad 0)), (1, .int p1)]) hx hb dX12_isGood_6 rfl hl (by decide) rfl (fun ls hl => ?_)
  refine lv_iload_n hx hb dX12_isGood_7 rfl (lv_at hl 2 rfl) ?_
  refine lv_iconst (v := 4) hx hb dX12_isGood_8 (by decide) ?_
  refine lv_irem hx hb dX12_isGood_9 (by decide) ?_
  by_cases hc2 : (p1 - p1 / 4 * 4) = 0
  · have hF := it_p hc2 hF
    refine lv_lookup (tgt := 36) (off := 26) hx hb dX12_isGood_10 (by decide) (by rw [hc2]; decide) (by decide) ?_
    refine lv_iload_n hx hb dX12_isGood_36 rfl (lv_at hl 0 rfl) ?_
    refine kS_i (va_runS (As := [.int (a0 15 p1.toNatClampNeg)]) (rest := []) ⟨hx, hb, hml, hown, hts⟩ (c_X12_kindBy l hz D (tM ck) (a0 15 p1.toNatClampNeg)) (va_cwS 1 hts gX12_isGood_X12_kindBy rfl rfl rfl pX12_kindBy ⟨Nat.le_of_ble_eq_true rfl, Nat.le_of_ble_eq_true rfl⟩) (kR.preS kP_nil hE) rfl rfl hl.1 rfl (lv_room (Nat.le_of_ble_eq_true rfl)) dX12_isGood_37 ⟨Nat.le_refl _, Nat.le_refl _⟩) ?_
    refine lv_iconst (v := (-1)) hx hb dX12_isGood_40 (by decide) ?_
    refine lv_icmp_eq (tgt := 48) hx hb dX12_isGood_41 (by decide) (fun hc3 => ?_) (fun hc3 => ?_)
    · have hF := it_p hc3 hF
      refine lv_iconst (v := 0) hx hb dX12_isGood_48 (by decide) ?_
      have hv := (Option.some.inj hF).trans hp
      exact W.zret hx hb hr rfl (fun t ht hW => ⟨_, rfl, ⟨hv, by rw [← hv]; exact rfl⟩, ht⟩) (fun q hq => by cases hq) dX12_isGood_49
    · have hF := it_n hc3 hF
      refine lv_iconst (v := 1) hx hb dX12_isGood_44 (by decide) ?_
      refine lv_goto (tgt := 49) hx hb dX12_isGood_45 (by decide) ?_
      have hv := (Option.some.inj hF).trans hp
      exact W.zret hx hb hr rfl (fun t ht hW => ⟨_, rfl, ⟨hv, by rw [← hv]; exact rfl⟩, ht⟩) (fun q hq => by cases hq) dX12_isGood_49
  have hF := it_n hc2 hF
  by_cases hc4 : (p1 - p1 / 4 * 4) = 3
  · have hF := it_p hc4 hF
    refine lv_lookup (tgt := 50) (off := 40) hx hb dX12_isGood_10 (by decide) (by rw [hc4]; decide) (by decide) ?_
    refine lv_iload_n hx hb dX12_isGood_50 rfl (lv_at hl 0 rfl) ?_
    refine lv_bipush (v := 44) hx hb dX12_isGood_51 (by decide) ?_
    refine lv_icmp_ne (tgt := 66) hx hb dX12_isGood_53 (by decide) (fun hc5 => ?_) (fun hc5 => ?_)
    · have hF := it_n hc5 hF
      refine lv_iconst (v := 0) hx hb dX12_isGood_66 (by decide) ?_
      have hv := (Option.some.inj hF).trans hp
      exact W.zret hx hb hr rfl (fun t ht hW => ⟨_, rfl, ⟨hv, by rw [← hv]; exact rfl⟩, ht⟩) (fun q hq => by cases hq) dX12_isGood_67
    · have hF := it_p hc5 hF
      refine lv_iload_n hx hb dX12_isGood_56 rfl (lv_at hl 2 rfl) ?_
      refine lv_bipush (v := 19) hx hb dX12_isGood_57 (by decide) ?_
      refine lv_icmp_ge (tgt := 66) hx hb dX12_isGood_59 (by decide) (fun hc6 => ?_) (fun hc6 => ?_)
      · have hF := it_p hc6 hF
        refine lv_iconst (v := 0) hx hb dX12_isGood_66 (by decide) ?_
        have hv := (Option.some.inj hF).trans hp
        exact W.zret hx hb hr rfl (fun t ht hW => ⟨_, rfl, ⟨hv, by rw [← hv]; exact rfl⟩, ht⟩) (fun q hq => by cases hq) dX12_isGood_67
      · have hF := it_n hc6 hF
        refine lv_iconst (v := 1) hx hb dX12_isGood_62 (by decide) ?_
        refine lv_goto (tgt := 67) hx hb dX12_isGood_63 (by decide) ?_
        have hv := (Option.some.inj hF).trans hp
        exact W.zret hx hb hr rfl (fun t ht hW => ⟨_, rfl, ⟨hv, by rw [← hv]; exact rfl⟩, ht⟩) (fun q hq => by cases hq) dX12_isGood_67
  have hF := it_n hc4 hF
  refine lv_lookup (tgt := 68) (off := 58) hx hb dX12_isGood_10 (by decide) (by rw [lv_osw hc2 (by decide)]; rw [lv_osw hc4 (by decide)]; rfl) (by decide) ?_
  refine lv_iload_n hx hb dX12_isGood_68 rfl (lv_at hl 0 rfl) ?_
  refine lv_bipush (v := 48) hx hb dX12_isGood_69 (by decide) ?_
  refine lv_isub hx hb dX12_isGood_71 ?_
  refine lv_iconst (v := 0) hx hb dX12_isGood_72 (by decide) ?_
  refine lv_iconst (v := 4) hx hb dX12_isGood_73 (by decide) ?_
  refine kS_b (va_runS (As := [.int ((a0 15 p1.toNatClampNeg) - (48 : Int32)), .int 0, .int 4]) (rest := []) ⟨hx, hb, hml, hown, hts⟩ (c_X12_within l hz D (tM ck) ((a0 15 p1.toNatClampNeg) - (48 : Int32)) 0 4) (va_cwS 3 hts gX12_isGood_X12_within rfl rfl rfl pX12_within ⟨Nat.le_of_ble_eq_true rfl, Nat.le_of_ble_eq_true rfl⟩) (kR.preS kP_nil hE) rfl rfl hl.1 rfl (lv_room (Nat.le_of_ble_eq_true rfl)) dX12_isGood_74 ⟨Nat.le_refl _, Nat.le_refl _⟩) (fun hz7 => ?_)
  have hv := (Option.some.inj hF).trans hp
  exact W.zret hx hb hr hz7 (fun t ht hW => ⟨_, rfl, ⟨hv, by rw [← hv]; exact hz7⟩, ht⟩) (fun q hq => by cases hq) dX12_isGood_77

def F_X12_isWhole (f0 : Nat → Int32) (g0 : Nat → Int64) (a0 : Nat → Nat → Int32) : Int32 := if ((f0 14) - (f0 14) / 4 * 4) = 3 then if (f0 14) ≤ 6 then 0 else 1 else 0
set_option maxHeartbeats 4000000 in
set_option maxRecDepth 100000 in
theorem c_X12_isWhole (l : Launch) (hz : Nat) (D : va_G) (ad : Nat → Nat) (ck : Nat → ClassId) (f0 : Nat → Int32) (g0 : Nat → Int64) (a0 : Nat → Nat → Int32) : Met l yX12_isWhole wsX12_isWhole ({ frames := 0, cells := 0, slots := 0, locals := 0 }) (kR hz D vwCl (tM ck) (wM ad ck f0 g0 a0) [.ref (ad 0)]) (kZb (F_X12_isWhole f0 g0 a0)) 0 0 (fun _ => False) := by
  generalize hF : F_X12_isWhole f0 g0 a0 = out
  refine Met.ofW (cc := cX12_isWhole) (maxL := 1) (ret := (some .boolean)) (by decide) rfl ?_
  intro p e s m args below meth c s₁ B hml hv
  obtain ⟨rfl, hP, hE⟩ := hv
  have hx := B.exec
  have hb := B.bytes
  have hr := B.returns
  have hts := atoms_spec (ws := wsX12_isWhole) B.pre
  have hown : s.vm.findClass RX12 = some m.cls := findClass_of_methodNamed B.named
  have hlocks := B.notSynchronized
  have hK := hE.1
  have hiX12 : ∀ w ∈ u_ws RX12 TX12 31, w ∈ wsX12_isWhole := by decide +kernel
  have hf63 := hts (.fieldLink RX12 63 "SpeltByFriendsModel" "pageLength" "I") (by decide +kernel)
  have hl := lv_entry ([.ref (ad 0)]) (n := 1) (Nat.le_of_ble_eq_true rfl)
  rw [lg_entry_eq]
  generalize (lg_sl ([.ref (ad 0)]) ++ List.replicate (1 - (lg_sl ([.ref (ad 0)])).length) Slot.unset).toArray = ls at hl ⊢
  have hl : lv_has ls 1 [(0, .ref (ad 0))] := hl
  obtain ⟨r, hF, hp⟩ : ∃ r, F_X12_isWhole f0 g0 a0 = r ∧ r = out := ⟨out, hF, rfl⟩
  unfold F_X12_isWhole at hF
  refine lv_aload_n hx hb dX12_isWhole_0 rfl (lv_at hl 0 rfl) ?_
  refine va_get (D := D) (ci := 12) (v := .int (f0 14)) (C := RX12) (T := TX12) (N := 31) hx hb hts hiX12 hown hK hP 0 rfl rfl 14 (by decide) hf63 (fun _ h9 => h9) rfl dX12_isWhole_1 ?_
  refine lv_iconst (v := 4) hx hb dX12_isWhole_4 (by decide) ?_
  refine lv_irem hx hb dX12_isWhole_5 (by decide) ?_
  refine lv_iconst (v := 3) hx hb dX12_isWhole_6 (by decide) ?_
  refine lv_icmp_ne (tgt := 23) hx hb dX12_isWhole_7 (by decide) (fun hc1 => ?_) (fun hc1 => ?_)
  · have hF := it_n hc1 hF
    refine lv_iconst (v := 0) hx hb dX12_isWhole_23 (by decide) ?_
    have hv := hF.trans hp
    exact W.zret hx hb hr rfl (fun t ht hW => ⟨_, rfl, ⟨hv, by rw [← hv]; exact rfl⟩, ht⟩) (fun q hq => by cases hq) dX12_isWhole_24
  · have hF := it_p hc1 hF
    refine lv_aload_n hx hb dX12_isWhole_10 rfl (lv_at hl 0 rfl) ?_
    refine va_get (D := D) (ci := 12) (v := .int (f0 14)) (C := RX12) (T := TX12) (N := 31) hx hb hts hiX12 hown hK hP 0 rfl rfl 14 (by decide) hf63 (fun _ h9 => h9) rfl dX12_isWhole_11 ?_
    refine lv_bipush (v := 6) hx hb dX12_isWhole_14 (by decide) ?_
    refine lv_icmp_le (tgt := 23) hx hb dX12_isWhole_16 (by decide) (fun hc2 => ?_) (fun hc2 => ?_)
    · have hF := it_p hc2 hF
      refine lv_iconst (v := 0) hx hb dX12_isWhole_23 (by decide) ?_
      have hv := hF.trans hp
      exact W.zret hx hb hr rfl (fun t ht hW => ⟨_, rfl, ⟨hv, by rw [← hv]; exact rfl⟩, ht⟩) (fun q hq => by cases hq) dX12_isWhole_24
    · have hF := it_n hc2 hF
      refine lv_iconst (v := 1) hx hb dX12_isWhole_19 (by decide) ?_
      refine lv_goto (tgt := 24) hx hb dX12_isWhole_20 (by decide) ?_
      have hv := hF.trans hp
      exact W.zret hx hb hr rfl (fun t ht hW => ⟨_, rfl, ⟨hv, by rw [← hv]; exact rfl⟩, ht⟩) (fun q hq => by cases hq) dX12_isWhole_24

def N_X12_faultNow_86 (f0 : Nat → Int32) (g0 : Nat → Int64) (a0 : Nat → Nat → Int32) (x2_52 : Int32) (x3_86 : Int32) : Option ((Int32) ⊕ Int32) := some (.inl (x3_86 + 1))
def B_X12_faultNow_52 (f0 : Nat → Int32) (g0 : Nat → Int64) (a0 : Nat → Nat → Int32) (x2_52 : Int32) (x3_52 : Int32) : Option ((Int32) ⊕ Int32) := if (f0 14) ≤ x3_52 then Option.map Sum.inr (some x3_52) else if (x3_52 - x3_52 / 4 * 4) = 0 then N_X12_faultNow_86 f0 g0 a0 x2_52 x3_52 else if (x3_52 - x3_52 / 4 * 4) = 3 then N_X12_faultNow_86 f0 g0 a0 x2_52 x3_52 else gd (inB x3_52 21) (if x2_52 ≤ ((a0 15 x3_52.toNatClampNeg) - (48 : Int32)) then Option.map Sum.inr (some x3_52) else N_X12_faultNow_86 f0 g0 a0 x2_52 x3_52)
def N_X12_faultNow_52 (f0 : Nat → Int32) (g0 : Nat → Int64) (a0 : Nat → Nat → Int32) (x2_52 : Int32) (x3_52 : Int32) : Option Int32 := lpN (fun q52 : (Int32) => B_X12_faultNow_52 f0 g0 a0 x2_52 q52) kFu x3_52
def N_X12_faultNow_24 (f0 : Nat → Int32) (g0 : Nat → Int64) (a0 : Nat → Nat → Int32) (x1_24 : Int32) : Option Int32 := if x1_24 < (f0 14) then some x1_24 else if (F_X12_isWhole f0 g0 a0) = 0 then some x1_24 else N_X12_faultNow_52 f0 g0 a0 (((f0 14) + (1 : Int32)) / 4) 0
def B_X12_faultNow_2 (f0 : Nat → Int32) (g0 : Nat → Int64) (a0 : Nat → Nat → Int32) (x1_2 : Int32) : Option ((Int32) ⊕ Int32) := if (f0 14) ≤ x1_2 then Option.map Sum.inr (N_X12_faultNow_24 f0 g0 a0 x1_2) else (F_X12_isGood f0 g0 a0 x1_2).bind fun r10 => if r10 = 0 then Option.map Sum.inr (N_X12_faultNow_24 f0 g0 a0 x1_2) else some (.inl (x1_2 + 1))
def N_X12_faultNow_2 (f0 : Nat → Int32) (g0 : Nat → Int64) (a0 : Nat → Nat → Int32) (x1_2 : Int32) : Option Int32 := lpN (fun q2 : (Int32) => B_X12_faultNow_2 f0 g0 a0 q2) kFu x1_2
def F_X12_faultNow (f0 : Nat → Int32) (g0 : Nat → Int64) (a0 : Nat → Nat → Int32) : Option Int32 := N_X12_faultNow_2 f0 g0 a0 0
set_option maxHeartbeats 4000000 in
set_option maxRecDepth 100000 in
theorem c_X12_faultNow (l : Launch) (hz : Nat) (D : va_G) (ad : Nat → Nat) (ck : Nat → ClassId) (f0 : Nat → Int32) (g0 : Nat → Int64) (a0 : Nat → Nat → Int32) (out : Int32) (hF : F_X12_faultNow f0 g0 a0 = some out) : Met l yX12_faultNow wsX12_faultNow ({ frames := 2, cells := 0, slots := 0, locals := 44 }) (kR hz D vwCl (tM ck) (wM ad ck f0 g0 a0) [.ref (ad 0)]) (kZi out) 0 0 (fun _ => False) := by
  refine Met.ofW (cc := cX12_faultNow) (maxL := 4) (ret := (some .int)) (by decide) rfl ?_
  intro p e s m args below meth c s₁ B hml hv
  obtain ⟨rfl, hP, hE⟩ := hv
  have hx := B.exec
  have hb := B.bytes
  have hr := B.returns
  have hts := atoms_spec (ws := wsX12_faultNow) B.pre
  have hown : s.vm.findClass RX12 = some m.cls := findClass_of_methodNamed B.named
  have hlocks := B.notSynchronized
  have hK := hE.1
  have hiX12 : ∀ w ∈ u_ws RX12 TX12 31, w ∈ wsX12_faultNow := by decide +kernel
  have hf31 := hts (.fieldLink RX12 31 "SpeltByFriendsModel" "page" "[B") (by decide +kernel)
  have hf63 := hts (.fieldLink RX12 63 "SpeltByFriendsModel" "pageLength" "I") (by decide +kernel)
  have hN_52 : ∀ (x2_52 : Int32) (n52 : Nat) (x3_52 : Int32) (ls : Array Slot), lv_has ls 4 [(0, .ref (ad 0)), (2, .int x2_52), (3, .int x3_52)] → ∀ r : Int32, lpN (fun q52 : (Int32) => B_X12_faultNow_52 f0 g0 a0 x2_52 q52) n52 x3_52 = some r → (fun r => r = out) r → W p l e (headSpec wsX12_faultNow ({ frames := 2, cells := 0, slots := 0, locals := 44 })).room s m [.ref (ad 0)].toArray below meth c s.heap [] 0 0 (MQ below (kZi out) [.ref (ad 0)].toArray s 0 0 (fun _ => False)) (F0 m 52 ls []) := by
    intro x2_52 n52
    induction n52 with
    | zero => intro x3_52 ls hl r hF hp; exact (lp_z hF).elim
    | succ n52 ih52 =>
      intro x3_52 ls hl r hF hp
      obtain ⟨rs, hF, hp⟩ := lpN_K (P := (fun r => r = out)) hF hp
      have hN_86 : ∀ (x3_86 : Int32) (ls : Array Slot), lv_has ls 4 [(0, .ref (ad 0)), (2, .int x2_52), (3, .int x3_86)] → ∀ r : ((Int32) ⊕ Int32), N_X12_faultNow_86 f0 g0 a0 x2_52 x3_86 = some r → (lpK (fun q52 : (Int32) => B_X12_faultNow_52 f0 g0 a0 x2_52 q52) n52 (fun r => r = out)) r → W p l e (headSpec wsX12_faultNow ({ frames := 2, cells := 0, slots := 0, locals := 44 })).room s m [.ref (ad 0)].toArray below meth c s.heap [] 0 0 (MQ below (kZi out) [.ref (ad 0)].toArray s 0 0 (fun _ => False)) (F0 m 86 ls []) := by
        intro x3_86 ls hl r hF hp
        unfold N_X12_faultNow_86 at hF
        refine lv_iinc (v := (x3_86 + 1)) (lv' := [(3, .int (x3_86 + 1)), (0, .ref (ad 0)), (2, .int x2_52)]) hx hb dX12_faultNow_86 hl (k := 2) rfl rfl (by decide) rfl (fun ls hl => ?_)
        refine lv_goto (tgt := 52) hx hb dX12_faultNow_89 (by decide) ?_
        have hF := Option.some.inj hF
        subst hF
        obtain ⟨r, hF, hp⟩ := hp
        exact ih52 (x3_86 + 1) ls (lv_sub hl [1, 2, 0] rfl) r hF hp
      unfold B_X12_faultNow_52 at hF
      refine lv_iload_n hx hb dX12_faultNow_52 rfl (lv_at hl 2 rfl) ?_
      refine lv_aload_n hx hb dX12_faultNow_53 rfl (lv_at hl 0 rfl) ?_
      refine va_get (D := D) (ci := 12) (v := .int (f0 14)) (C := RX12) (T := TX12) (N := 31) hx hb hts hiX12 hown hK hP 0 rfl rfl 14 (by decide) hf63 (fun _ h9 => h9) rfl dX12_faultNow_54 ?_
      refine lv_icmp_ge (tgt := 92) hx hb dX12_faultNow_57 (by decide) (fun hc5 => ?_) (fun hc5 => ?_)
      · have hF := it_p hc5 hF
        obtain ⟨r, hF1, hr0⟩ := mp_s hF
        clear hF
        subst hr0
        have hF := hF1
        clear hF1
        have hp : (fun r => r = out) r := hp
        refine lv_iload_n hx hb dX12_faultNow_92 rfl (lv_at hl 2 rfl) ?_
        exact W.iret hx hb hr (fun t ht hW => ⟨_, rfl, (Option.some.inj hF).trans hp, ht⟩) (fun q hq => by cases hq) dX12_faultNow_93
      · have hF := it_n hc5 hF
        refine lv_iload_n hx hb dX12_faultNow_60 rfl (lv_at hl 2 rfl) ?_
        refine lv_iconst (v := 4) hx hb dX12_faultNow_61 (by decide) ?_
        refine lv_irem hx hb dX12_faultNow_62 (by decide) ?_
        refine lv_if_eq (tgt := 86) hx hb dX12_faultNow_63 (by decide) (fun hc6 => ?_) (fun hc6 => ?_)
        · have hF := it_p hc6 hF
          exact hN_86 x3_52 ls (lv_sub hl [0, 1, 2] rfl) _ hF hp
        · have hF := it_n hc6 hF
          refine lv_iload_n hx hb dX12_faultNow_66 rfl (lv_at hl 2 rfl) ?_
          refine lv_iconst (v := 4) hx hb dX12_faultNow_67 (by decide) ?_
          refine lv_irem hx hb dX12_faultNow_68 (by decide) ?_
          refine lv_iconst (v := 3) hx hb dX12_faultNow_69 (by decide) ?_
          refine lv_icmp_eq (tgt := 86) hx hb dX12_faultNow_70 (by decide) (fun hc7 => ?_) (fun hc7 => ?_)
          · have hF := it_p hc7 hF
            exact hN_86 x3_52 ls (lv_sub hl [0, 1, 2] rfl) _ hF hp
          · have hF := it_n hc7 hF
            refine lv_aload_n hx hb dX12_faultNow_73 rfl (lv_at hl 0 rfl) ?_
            refine va_get (D := D) (ci := 12) (v := .ref (ad 15)) (C := RX12) (T := TX12) (N := 31) hx hb hts hiX12 hown hK hP 0 rfl rfl 15 (by decide) hf31 (fun _ h9 => h9) rfl dX12_faultNow_74 ?_
            refine lv_iload_n hx hb dX12_faultNow_77 rfl (lv_at hl 2 rfl) ?_
            obtain ⟨hg8, hF⟩ := gd_s hF
            refine va_bald hx hb hK hP 8 7 rfl rfl (inB_in hg8) dX12_faultNow_78 ?_
            refine lv_bipush (v := 48) hx hb dX12_faultNow_79 (by decide) ?_
            refine lv_isub hx hb dX12_faultNow_81 ?_
            refine lv_iload_n hx hb dX12_faultNow_82 rfl (lv_at hl 1 rfl) ?_
            refine lv_icmp_ge (tgt := 92) hx hb dX12_faultNow_83 (by decide) (fun hc9 => ?_) (fun hc9 => ?_)
            · have hF := it_p hc9 hF
              obtain ⟨r, hF1, hr0⟩ := mp_s hF
              clear hF
              subst hr0
              have hF := hF1
              clear hF1
              have hp : (fun r => r = out) r := hp
              refine lv_iload_n hx hb dX12_faultNow_92 rfl (lv_at hl 2 rfl) ?_
              exact W.iret hx hb hr (fun t ht hW => ⟨_, rfl, (Option.some.inj hF).trans hp, ht⟩) (fun q hq => by cases hq) dX12_faultNow_93
            · have hF := it_n hc9 hF
              exact hN_86 x3_52 ls (lv_sub hl [0, 1, 2] rfl) _ hF hp
  have hN_24 : ∀ (x1_24 : Int32) (ls : Array Slot), lv_has ls 4 [(0, .ref (ad 0)), (1, .int x1_24)] → ∀ r : Int32, N_X12_faultNow_24 f0 g0 a0 x1_24 = some r → (fun r => r = out) r → W p l e (headSpec wsX12_faultNow ({ frames := 2, cells := 0, slots := 0, locals := 44 })).room s m [.ref (ad 0)].toArray below meth c s.heap [] 0 0 (MQ below (kZi out) [.ref (ad 0)].toArray s 0 0 (fun _ => False)) (F0 m 24 ls []) := by
    intro x1_24 ls hl r hF hp
    unfold N_X12_faultNow_24 at hF
    refine lv_iload_n hx hb dX12_faultNow_24 rfl (lv_at hl 1 rfl) ?_
    refine lv_aload_n hx hb dX12_faultNow_25 rfl (lv_at hl 0 rfl) ?_
    refine va_get (D := D) (ci := 12) (v := .int (f0 14)) (C := RX12) (T := TX12) (N := 31) hx hb hts hiX12 hown hK hP 0 rfl rfl 14 (by decide) hf63 (fun _ h9 => h9) rfl dX12_faultNow_26 ?_
    refine lv_icmp_lt (tgt := 39) hx hb dX12_faultNow_29 (by decide) (fun hc2 => ?_) (fun hc2 => ?_)
    · have hF := it_p hc2 hF
      refine lv_iload_n hx hb dX12_faultNow_39 rfl (lv_at hl 1 rfl) ?_
      exact W.iret hx hb hr (fun t ht hW => ⟨_, rfl, (Option.some.inj hF).trans hp, ht⟩) (fun q hq => by cases hq) dX12_faultNow_40
    · have hF := it_n hc2 hF
      refine lv_aload_n hx hb dX12_faultNow_32 rfl (lv_at hl 0 rfl) ?_
      refine kS_b (va_runV (As := []) (rest := []) ⟨hx, hb, hml, hown, hts⟩ (c_X12_isWhole l hz D ad ck f0 g0 a0) (cwV 0 hts gX12_faultNow_X12_isWhole rfl rfl rfl ⟨rfl, pX12_isWhole⟩ ⟨Nat.le_of_ble_eq_true rfl, Nat.le_of_ble_eq_true rfl⟩) (kR.preV (va_recv hK hP (ci := 12) (q0 := 0) rfl rfl) hP hE) rfl rfl hl.1 rfl (lv_room (Nat.le_of_ble_eq_true rfl)) dX12_faultNow_33 ⟨Nat.le_refl _, Nat.le_refl _⟩) (fun hz3 => ?_)
      refine lv_if_ne (tgt := 41) hx hb dX12_faultNow_36 (by decide) (fun hc4 => ?_) (fun hc4 => ?_)
      · have hF := it_n hc4 hF
        refine lv_aload_n hx hb dX12_faultNow_41 rfl (lv_at hl 0 rfl) ?_
        refine va_get (D := D) (ci := 12) (v := .int (f0 14)) (C := RX12) (T := TX12) (N := 31) hx hb hts hiX12 hown hK hP 0 rfl rfl 14 (by decide) hf63 (fun _ h9 => h9) rfl dX12_faultNow_42 ?_
        refine lv_iconst (v := 1) hx hb dX12_faultNow_45 (by decide) ?_
        refine lv_iadd hx hb dX12_faultNow_46 ?_
        refine lv_iconst (v := 4) hx hb dX12_faultNow_47 (by decide) ?_
        refine lv_idiv hx hb dX12_faultNow_48 (by decide) ?_
        refine lv_istore_n (lv' := [(2, .int (((f0 14) + (1 : Int32)) / 4)), (0, .ref (ad 0)), (1, .int x1_24)]) hx hb dX12_faultNow_49 rfl hl (by decide) rfl (fun ls hl => ?_)
        refine lv_iconst (v := 0) hx hb dX12_faultNow_50 (by decide) ?_
        refine lv_istore_n (lv' := [(3, .int 0), (2, .int (((f0 14) + (1 : Int32)) / 4)), (0, .ref (ad 0)), (1, .int x1_24)]) hx hb dX12_faultNow_51 rfl hl (by decide) rfl (fun ls hl => ?_)
        exact hN_52 (((f0 14) + (1 : Int32)) / 4) kFu 0 ls (lv_sub hl [2, 1, 0] rfl) _ hF hp
      · have hF := it_p hc4 hF
        refine lv_iload_n hx hb dX12_faultNow_39 rfl (lv_at hl 1 rfl) ?_
        exact W.iret hx hb hr (fun t ht hW => ⟨_, rfl, (Option.some.inj hF).trans hp, ht⟩) (fun q hq => by cases hq) dX12_faultNow_40
  have hN_2 : ∀ (n2 : Nat) (x1_2 : Int32) (ls : Array Slot), lv_has ls 4 [(0, .ref (ad 0)), (1, .int x1_2)] → ∀ r : Int32, lpN (fun q2 : (Int32) => B_X12_faultNow_2 f0 g0 a0 q2) n2 x1_2 = some r → (fun r => r = out) r → W p l e (headSpec wsX12_faultNow ({ frames := 2, cells := 0, slots := 0, locals := 44 })).room s m [.ref (ad 0)].toArray below meth c s.heap [] 0 0 (MQ below (kZi out) [.ref (ad 0)].toArray s 0 0 (fun _ => False)) (F0 m 2 ls []) := by
    intro n2
    induction n2 with
    | zero => intro x1_2 ls hl r hF hp; exact (lp_z hF).elim
    | succ n2 ih2 =>
      intro x1_2 ls hl r hF hp
      obtain ⟨rs, hF, hp⟩ := lpN_K (P := (fun r => r = out)) hF hp
      unfold B_X12_faultNow_2 at hF
      refine lv_iload_n hx hb dX12_faultNow_2 rfl (lv_at hl 1 rfl) ?_
      refine lv_aload_n hx hb dX12_faultNow_3 rfl (lv_at hl 0 rfl) ?_
      refine va_get (D := D) (ci := 12) (v := .int (f0 14)) (C := RX12) (T := TX12) (N := 31) hx hb hts hiX12 hown hK hP 0 rfl rfl 14 (by decide) hf63 (fun _ h9 => h9) rfl dX12_faultNow_4 ?_
      refine lv_icmp_ge (tgt := 24) hx hb dX12_faultNow_7 (by decide) (fun hc1 => ?_) (fun hc1 => ?_)
      · have hF := it_p hc1 hF
        obtain ⟨r, hF1, hr0⟩ := mp_s hF
        clear hF
        subst hr0
        have hF := hF1
        clear hF1
        have hp : (fun r => r = out) r := hp
        exact hN_24 x1_2 ls (lv_sub hl [0, 1] rfl) _ hF hp
      · have hF := it_n hc1 hF
        refine lv_aload_n hx hb dX12_faultNow_10 rfl (lv_at hl 0 rfl) ?_
        refine lv_iload_n hx hb dX12_faultNow_11 rfl (lv_at hl 1 rfl) ?_
        obtain ⟨r10, he10, hF⟩ := bd_s hF
        refine kS_b (va_runV (As := [.int x1_2]) (rest := []) ⟨hx, hb, hml, hown, hts⟩ (c_X12_isGood l hz D ad ck f0 g0 a0 x1_2 r10 he10) (cwV 1 hts gX12_faultNow_X12_isGood rfl rfl rfl ⟨rfl, pX12_isGood⟩ ⟨Nat.le_of_ble_eq_true rfl, Nat.le_of_ble_eq_true rfl⟩) (kR.preV (va_recv hK hP (ci := 12) (q0 := 0) rfl rfl) hP hE) rfl rfl hl.1 rfl (lv_room (Nat.le_of_ble_eq_true rfl)) dX12_faultNow_12 ⟨Nat.le_refl _, Nat.le_refl _⟩) (fun hz11 => ?_)
        refine lv_if_eq (tgt := 24) hx hb dX12_faultNow_15 (by decide) (fun hc12 => ?_) (fun hc12 => ?_)
        · have hF := it_p hc12 hF
          obtain ⟨r, hF1, hr0⟩ := mp_s hF
          clear hF
          subst hr0
          have hF := hF1
          clear hF1
          have hp : (fun r => r = out) r := hp
          exact hN_24 x1_2 ls (lv_sub hl [0, 1] rfl) _ hF hp
        · have hF := it_n hc12 hF
          refine lv_iinc (v := (x1_2 + 1)) (lv' := [(1, .int (x1_2 + 1)), (0, .ref (ad 0))]) hx hb dX12_faultNow_18 hl (k := 1) rfl rfl (by decide) rfl (fun ls hl => ?_)
          refine lv_goto (tgt := 2) hx hb dX12_faultNow_21 (by decide) ?_
          have hF := Option.some.inj hF
          subst hF
          obtain ⟨r, hF, hp⟩ := hp
          exact ih2 (x1_2 + 1) ls (lv_sub hl [1, 0] rfl) r hF hp
  have hl := lv_entry ([.ref (ad 0)]) (n := 4) (Nat.le_of_ble_eq_true rfl)
  rw [lg_entry_eq]
  generalize (lg_sl ([.ref (ad 0)]) ++ List.replicate (4 - (lg_sl ([.ref (ad 0)])).length) Slot.unset).toArray = ls at hl ⊢
  have hl : lv_has ls 4 [(0, .ref (ad 0))] := hl
  obtain ⟨r, hF, hp⟩ : ∃ r, F_X12_faultNow f0 g0 a0 = some r ∧ r = out := ⟨out, hF, rfl⟩
  unfold F_X12_faultNow at hF
  refine lv_iconst (v := 0) hx hb dX12_faultNow_0 (by decide) ?_
  refine lv_istore_n (lv' := [(1, .int 0), (0, .ref (ad 0))]) hx hb dX12_faultNow_1 rfl hl (by decide) rfl (fun ls hl => ?_)
  exact hN_2 kFu 0 ls (lv_sub hl [1, 0] rfl) _ hF hp

def F_X12_fault (f0 : Nat → Int32) (g0 : Nat → Int64) (a0 : Nat → Nat → Int32) : Option Int32 := (F_X12_faultNow f0 g0 a0).bind fun r1 => some r1
set_option maxHeartbeats 4000000 in
set_option maxRecDepth 100000 in
theorem c_X12_fault (l : Launch) (hz : Nat) (D : va_G) (ad : Nat → Nat) (ck : Nat → ClassId) (f0 : Nat → Int32) (g0 : Nat → Int64) (a0 : Nat → Nat → Int32) (out : Int32) (hF : F_X12_fault f0 g0 a0 = some out) : Met l yX12_fault wsX12_fault ({ frames := 3, cells := 0, slots := 0, locals := 67 }) (kR hz D vwCl (tM ck) (wM ad ck f0 g0 a0) [.ref (ad 0)]) (kZi out) 0 0 (fun _ => False) := by
  refine Met.ofW (cc := cX12_fault) (maxL := 1) (ret := (some .int)) (by decide) rfl ?_
  intro p e s m args below meth c s₁ B hml hv
  obtain ⟨rfl, hP, hE⟩ := hv
  have hx := B.exec
  have hb := B.bytes
  have hr := B.returns
  have hts := atoms_spec (ws := wsX12_fault) B.pre
  have hown : s.vm.findClass RX12 = some m.cls := findClass_of_methodNamed B.named
  have hlocks := B.notSynchronized
  have hK := hE.1
  have hl := lv_entry ([.ref (ad 0)]) (n := 1) (Nat.le_of_ble_eq_true rfl)
  rw [lg_entry_eq]
  generalize (lg_sl ([.ref (ad 0)]) ++ List.replicate (1 - (lg_sl ([.ref (ad 0)])).length) Slot.unset).toArray = ls at hl ⊢
  have hl : lv_has ls 1 [(0, .ref (ad 0))] := hl
  obtain ⟨r, hF, hp⟩ : ∃ r, F_X12_fault f0 g0 a0 = some r ∧ r = out := ⟨out, hF, rfl⟩
  unfold F_X12_fault at hF
  refine lv_aload_n hx hb dX12_fault_0 rfl (lv_at hl 0 rfl) ?_
  obtain ⟨r1, he1, hF⟩ := bd_s hF
  refine kS_i (va_runV (As := []) (rest := []) ⟨hx, hb, hml, hown, hts⟩ (c_X12_faultNow l hz D ad ck f0 g0 a0 r1 he1) (cwV 0 hts gX12_fault_X12_faultNow rfl rfl rfl ⟨rfl, pX12_faultNow⟩ ⟨Nat.le_of_ble_eq_true rfl, Nat.le_of_ble_eq_true rfl⟩) (kR.preV (va_recv hK hP (ci := 12) (q0 := 0) rfl rfl) hP hE) rfl rfl hl.1 rfl (lv_room (Nat.le_of_ble_eq_true rfl)) dX12_fault_1 ⟨Nat.le_refl _, Nat.le_refl _⟩) ?_
  exact W.iret hx hb hr (fun t ht hW => ⟨_, rfl, (Option.some.inj hF).trans hp, ht⟩) (fun q hq => by cases hq) dX12_fault_4
