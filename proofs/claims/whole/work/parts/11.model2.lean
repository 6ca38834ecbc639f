/-! ===== the reference, by program (tools/gen.py) ===== -/
def F_X12_isOne (f0 : Nat → Int32) (g0 : Nat → Int64) (a0 : Nat → Nat → Int32) (p1 : Int32) : Int32 := (F_X12_within p1 0 ((f0 1) - (1 : Int32)))
set_option maxHeartbeats 4000000 in
set_option maxRecDepth 100000 in
theorem c_X12_isOne (l : Launch) (hz : Nat) (D : va_G) (ad : Nat → Nat) (ck : Nat → ClassId) (f0 : Nat → Int32) (g0 : Nat → Int64) (a0 : Nat → Nat → Int32) (p1 : Int32) : Met l yX12_isOne wsX12_isOne ({ frames := 1, cells := 0, slots := 0, locals := 22 }) (kR hz D vwCl (tM ck) (wM ad ck f0 g0 a0) [.ref (ad 0), .int p1]) (kZb (F_X12_isOne f0 g0 a0 p1)) 0 0 (fun _ => False) := by
  generalize hF : F_X12_isOne f0 g0 a0 p1 = out
  refine Met.ofW (cc := cX12_isOne) (maxL := 2) (ret := (some .boolean)) (by decide) rfl ?_
  intro p e s m args below meth c s₁ B hml hv
  obtain ⟨rfl, hP, hE⟩ := hv
  have hx := B.exec
  have hb := B.bytes
  have hr := B.returns
  have hts := atoms_spec (ws := wsX12_isOne) B.pre
  have hown : s.vm.findClass RX12 = some m.cls := findClass_of_methodNamed B.named
  have hlocks := B.notSynchronized
  have hK := hE.1
  have hiX12 : ∀ w ∈ u_ws RX12 TX12 31, w ∈ wsX12_isOne := by decide +kernel
  have hf83 := hts (.fieldLink RX12 83 "SpeltByFriendsModel" "people" "I") (by decide +kernel)
  have hl := lv_entry ([.ref (ad 0), .int p1]) (n := 2) (Nat.le_of_ble_eq_true rfl)
  rw [lg_entry_eq]
  generalize (lg_sl ([.ref (ad 0), .int p1]) ++ List.replicate (2 - (lg_sl ([.ref (ad 0), .int p1])).length) Slot.unset).toArray = ls at hl ⊢
  have hl : lv_has ls 2 [(0, .ref (ad 0)), (1, .int p1)] := hl
  obtain ⟨r, hF, hp⟩ : ∃ r, F_X12_isOne f0 g0 a0 p1 = r ∧ r = out := ⟨out, hF, rfl⟩
  unfold F_X12_isOne at hF
  refine lv_iload_n hx hb dX12_isOne_0 rfl (lv_at hl 1 rfl) ?_
  refine lv_iconst (v := 0) hx hb dX12_isOne_1 (by decide) ?_
  refine lv_aload_n hx hb dX12_isOne_2 rfl (lv_at hl 0 rfl) ?_
  refine va_get (D := D) (ci := 12) (v := .int (f0 1)) (C := RX12) (T := TX12) (N := 31) hx hb hts hiX12 hown hK hP 0 rfl rfl 1 (by decide) hf83 (fun _ h9 => h9) rfl dX12_isOne_3 ?_
  refine lv_iconst (v := 1) hx hb dX12_isOne_6 (by decide) ?_
  refine lv_isub hx hb dX12_isOne_7 ?_
  refine kS_b (va_runS (As := [.int p1, .int 0, .int ((f0 1) - (1 : Int32))]) (rest := []) ⟨hx, hb, hml, hown, hts⟩ (c_X12_within l hz D (tM ck) p1 0 ((f0 1) - (1 : Int32))) (va_cwS 3 hts gX12_isOne_X12_within rfl rfl rfl pX12_within ⟨Nat.le_of_ble_eq_true rfl, Nat.le_of_ble_eq_true rfl⟩) (kR.preS kP_nil hE) rfl rfl hl.1 rfl (lv_room (Nat.le_of_ble_eq_true rfl)) dX12_isOne_8 ⟨Nat.le_refl _, Nat.le_refl _⟩) (fun hz1 => ?_)
  have hv := hF.trans hp
  exact W.zret hx hb hr hz1 (fun t ht hW => ⟨_, rfl, ⟨hv, by rw [← hv]; exact hz1⟩, ht⟩) (fun q hq => by cases hq) dX12_isOne_11

def F_X12_isCompany (f0 : Nat → Int32) (g0 : Nat → Int64) (a0 : Nat → Nat → Int32) (p1 : Int32) : Int32 := (F_X12_within p1 0 (((1 : Int32) <<< ((f0 1) &&& 31)) - (1 : Int32)))
set_option maxHeartbeats 4000000 in
set_option maxRecDepth 100000 in
theorem c_X12_isCompany (l : Launch) (hz : Nat) (D : va_G) (ad : Nat → Nat) (ck : Nat → ClassId) (f0 : Nat → Int32) (g0 : Nat → Int64) (a0 : Nat → Nat → Int32) (p1 : Int32) : Met l yX12_isCompany wsX12_isCompany ({ frames := 1, cells := 0, slots := 0, locals := 22 }) (kR hz D vwCl (tM ck) (wM ad ck f0 g0 a0) [.ref (ad 0), .int p1]) (kZb (F_X12_isCompany f0 g0 a0 p1)) 0 0 (fun _ => False) := by
  generalize hF : F_X12_isCompany f0 g0 a0 p1 = out
  refine Met.ofW (cc := cX12_isCompany) (maxL := 2) (ret := (some .boolean)) (by decide) rfl ?_
  intro p e s m args below meth c s₁ B hml hv
  obtain ⟨rfl, hP, hE⟩ := hv
  have hx := B.exec
  have hb := B.bytes
  have hr := B.returns
  have hts := atoms_spec (ws := wsX12_isCompany) B.pre
  have hown : s.vm.findClass RX12 = some m.cls := findClass_of_methodNamed B.named
  have hlocks := B.notSynchronized
  have hK := hE.1
  have hiX12 : ∀ w ∈ u_ws RX12 TX12 31, w ∈ wsX12_isCompany := by decide +kernel
  have hf83 := hts (.fieldLink RX12 83 "SpeltByFriendsModel" "people" "I") (by decide +kernel)
  have hl := lv_entry ([.ref (ad 0), .int p1]) (n := 2) (Nat.le_of_ble_eq_true rfl)
  rw [lg_entry_eq]
  generalize (lg_sl ([.ref (ad 0), .int p1]) ++ List.replicate (2 - (lg_sl ([.ref (ad 0), .int p1])).length) Slot.unset).toArray = ls at hl ⊢
  have hl : lv_has ls 2 [(0, .ref (ad 0)), (1, .int p1)] := hl
  obtain ⟨r, hF, hp⟩ : ∃ r, F_X12_isCompany f0 g0 a0 p1 = r ∧ r = out := ⟨out, hF, rfl⟩
  unfold F_X12_isCompany at hF
  refine lv_iload_n hx hb dX12_isCompany_0 rfl (lv_at hl 1 rfl) ?_
  refine lv_iconst (v := 0) hx hb dX12_isCompany_1 (by decide) ?_
  refine lv_iconst (v := 1) hx hb dX12_isCompany_2 (by decide) ?_
  refine lv_aload_n hx hb dX12_isCompany_3 rfl (lv_at hl 0 rfl) ?_
  refine va_get (D := D) (ci := 12) (v := .int (f0 1)) (C := RX12) (T := TX12) (N := 31) hx hb hts hiX12 hown hK hP 0 rfl rfl 1 (by decide) hf83 (fun _ h9 => h9) rfl dX12_isCompany_4 ?_
  refine lv_ishl hx hb dX12_isCompany_7 ?_
  refine lv_iconst (v := 1) hx hb dX12_isCompany_8 (by decide) ?_
  refine lv_isub hx hb dX12_isCompany_9 ?_
  refine kS_b (va_runS (As := [.int p1, .int 0, .int (((1 : Int32) <<< ((f0 1) &&& 31)) - (1 : Int32))]) (rest := []) ⟨hx, hb, hml, hown, hts⟩ (c_X12_within l hz D (tM ck) p1 0 (((1 : Int32) <<< ((f0 1) &&& 31)) - (1 : Int32))) (va_cwS 3 hts gX12_isCompany_X12_within rfl rfl rfl pX12_within ⟨Nat.le_of_ble_eq_true rfl, Nat.le_of_ble_eq_true rfl⟩) (kR.preS kP_nil hE) rfl rfl hl.1 rfl (lv_room (Nat.le_of_ble_eq_true rfl)) dX12_isCompany_10 ⟨Nat.le_refl _, Nat.le_refl _⟩) (fun hz1 => ?_)
  have hv := hF.trans hp
  exact W.zret hx hb hr hz1 (fun t ht hW => ⟨_, rfl, ⟨hv, by rw [← hv]; exact hz1⟩, ht⟩) (fun q hq => by cases hq) dX12_isCompany_13

def N_X12_isThere_26 (f0 : Nat → Int32) (g0 : Nat → Int64) (a0 : Nat → Nat → Int32) : Option Int32 := some 1
def F_X12_isThere (f0 : Nat → Int32) (g0 : Nat → Int64) (a0 : Nat → Nat → Int32) (p1 : Int32) (p2 : Int32) (p3 : Int32) : Option Int32 := if p2 = p1 then N_X12_isThere_26 f0 g0 a0 else if (F_X12_isIn p3 p2) = 0 then some 0 else gd (inB p1 5) (if (F_X12_isIn (a0 5 p1.toNatClampNeg) p2) = 0 then N_X12_isThere_26 f0 g0 a0 else some 0)
set_option maxHeartbeats 4000000 in
set_option maxRecDepth 100000 in
theorem c_X12_isThere (l : Launch) (hz : Nat) (D : va_G) (ad : Nat → Nat) (ck : Nat → ClassId) (f0 : Nat → Int32) (g0 : Nat → Int64) (a0 : Nat → Nat → Int32) (p1 : Int32) (p2 : Int32) (p3 : Int32) (out : Int32) (hF : F_X12_isThere f0 g0 a0 p1 p2 p3 = some out) : Met l yX12_isThere wsX12_isThere ({ frames := 1, cells := 0, slots := 0, locals := 21 }) (kR hz D vwCl (tM ck) (wM ad ck f0 g0 a0) [.ref (ad 0), .int p1, .int p2, .int p3]) (kZb out) 0 0 (fun _ => False) := by
  refine Met.ofW (cc := cX12_isThere) (maxL := 4) (ret := (some .boolean)) (by decide) rfl ?_
  intro p e s m args below meth c s₁ B hml hv
  obtain ⟨rfl, hP, hE⟩ := hv
  have hx := B.exec
  have hb := B.bytes
  have hr := B.returns
  have hts := atoms_spec (ws := wsX12_isThere) B.pre
  have hown : s.vm.findClass RX12 = some m.cls := findClass_of_methodNamed B.named
  have hlocks := B.notSynchronized
  have hK := hE.1
  have hiX12 : ∀ w ∈ u_ws RX12 TX12 31, w ∈ wsX12_isThere := by decide +kernel
  have hf19 := hts (.fieldLink RX12 19 "SpeltByFriendsModel" "quarrelsOf" "[I") (by decide +kernel)
  have hN_26 : ∀ (ls : Array Slot), lv_has ls 4 [] → ∀ r : Int32, N_X12_isThere_26 f0 g0 a0 = some r → (fun r => r = out) r → W p l e (headSpec wsX12_isThere ({ frames := 1, cells := 0, slots := 0, locals := 21 })).room s m [.ref (ad 0), .int p1, .int p2, .int p3].toArray below meth c s.heap [] 0 0 (MQ below (kZb out) [.ref (ad 0), .int p1, .int p2, .int p3].toArray s 0 0 (fun _ => False)) (F0 m 26 ls []) := by
    intro  ls hl r hF hp
    unfold N_X12_isThere_26 at hF
    refine lv_iconst (v := 1) hx hb dX12_isThere_26 (by decide) ?_
    refine lv_goto (tgt := 31) hx hb dX12_isThere_27 (by decide) ?_
    have hv := (Option.some.inj hF).trans hp
    exact W.zret hx hb hr rfl (fun t ht hW => ⟨_, rfl, ⟨hv, by rw [← hv]; exact rfl⟩, ht⟩) (fun q hq => by cases hq) dX12_isThere_31
  have hl := lv_entry ([.ref (ad 0), .int p1, .int p2, .int p3]) (n := 4) (Nat.le_of_ble_eq_true rfl)
  rw [lg_entry_eq]
  generalize (lg_sl ([.ref (ad 0), .int p1, .int p2, .int p3]) ++ List.replicate (4 - (lg_sl ([.ref (ad 0), .int p1, .int p2, .int p3])).length) Slot.unset).toArray = ls at hl ⊢
  have hl : lv_has ls 4 [(0, .ref (ad 0)), (1, .int p1), (2, .int p2), (3, .int p3)] := hl
  obtain ⟨r, hF, hp⟩ : ∃ r, F_X12_isThere f0 g0 a0 p1 p2 p3 = some r ∧ r = out := ⟨out, hF, rfl⟩
  unfold F_X12_isThere at hF
  refine lv_iload_n hx hb dX12_isThere_0 rfl (lv_at hl 2 rfl) ?_
  refine lv_iload_n hx hb dX12_isThere_1 rfl (lv_at hl 1 rfl) ?_
  refine lv_icmp_eq (tgt := 26) hx hb dX12_isThere_2 (by decide) (fun hc1 => ?_) (fun hc1 => ?_)
  · have hF := it_p hc1 hF
    exact hN_26  ls (lv_sub hl [] rfl) _ hF hp
  · have hF := it_n hc1 hF
    refine lv_iload_n hx hb dX12_isThere_5 rfl (lv_at hl 3 rfl) ?_
    refine lv_iload_n hx hb dX12_isThere_6 rfl (lv_at hl 2 rfl) ?_
    refine kS_b (va_runS (As := [.int p3, .int p2]) (rest := []) ⟨hx, hb, hml, hown, hts⟩ (c_X12_isIn l hz D (tM ck) p3 p2) (va_cwS 2 hts gX12_isThere_X12_isIn rfl rfl rfl pX12_isIn ⟨Nat.le_of_ble_eq_true rfl, Nat.le_of_ble_eq_true rfl⟩) (kR.preS kP_nil hE) rfl rfl hl.1 rfl (lv_room (Nat.le_of_ble_eq_true rfl)) dX12_isThere_7 ⟨Nat.le_refl _, Nat.le_refl _⟩) (fun hz2 => ?_)
    refine lv_if_eq (tgt := 30) hx hb dX12_isThere_10 (by decide) (fun hc3 => ?_) (fun hc3 => ?_)
    · have hF := it_p hc3 hF
      refine lv_iconst (v := 0) hx hb dX12_isThere_30 (by decide) ?_
      have hv := (Option.some.inj hF).trans hp
      exact W.zret hx hb hr rfl (fun t ht hW => ⟨_, rfl, ⟨hv, by rw [← hv]; exact rfl⟩, ht⟩) (fun q hq => by cases hq) dX12_isThere_31
    · have hF := it_n hc3 hF
      refine lv_aload_n hx hb dX12_isThere_13 rfl (lv_at hl 0 rfl) ?_
      refine va_get (D := D) (ci := 12) (v := .ref (ad 5)) (C := RX12) (T := TX12) (N := 31) hx hb hts hiX12 hown hK hP 0 rfl rfl 5 (by decide) hf19 (fun _ h9 => h9) rfl dX12_isThere_14 ?_
      refine lv_iload_n hx hb dX12_isThere_17 rfl (lv_at hl 1 rfl) ?_
      obtain ⟨hg4, hF⟩ := gd_s hF
      refine va_iald hx hb hK hP 4 3 rfl rfl (inB_in hg4) dX12_isThere_18 ?_
      refine lv_iload_n hx hb dX12_isThere_19 rfl (lv_at hl 2 rfl) ?_
      refine kS_b (va_runS (As := [.int (a0 5 p1.toNatClampNeg), .int p2]) (rest := []) ⟨hx, hb, hml, hown, hts⟩ (c_X12_isIn l hz D (tM ck) (a0 5 p1.toNatClampNeg) p2) (va_cwS 2 hts gX12_isThere_X12_isIn rfl rfl rfl pX12_isIn ⟨Nat.le_of_ble_eq_true rfl, Nat.le_of_ble_eq_true rfl⟩) (kR.preS kP_nil hE) rfl rfl hl.1 rfl (lv_room (Nat.le_of_ble_eq_true rfl)) dX12_isThere_20 ⟨Nat.le_refl _, Nat.le_refl _⟩) (fun hz5 => ?_)
      refine lv_if_ne (tgt := 30) hx hb dX12_isThere_23 (by decide) (fun hc6 => ?_) (fun hc6 => ?_)
      · have hF := it_n hc6 hF
        refine lv_iconst (v := 0) hx hb dX12_isThere_30 (by decide) ?_
        have hv := (Option.some.inj hF).trans hp
        exact W.zret hx hb hr rfl (fun t ht hW => ⟨_, rfl, ⟨hv, by rw [← hv]; exact rfl⟩, ht⟩) (fun q hq => by cases hq) dX12_isThere_31
      · have hF := it_p hc6 hF
        exact hN_26  ls (lv_sub hl [] rfl) _ hF hp

def N_X12_isWrittenBy_74 (f0 : Nat → Int32) (g0 : Nat → Int64) (a0 : Nat → Nat → Int32) : Option Int32 := some 1
def N_X12_isWrittenBy_66 (f0 : Nat → Int32) (g0 : Nat → Int64) (a0 : Nat → Nat → Int32) (x1_66 : Int32) (x4_66 : Int32) : Option Int32 := if x4_66 = ((1 : Int32) <<< (x1_66 &&& 31)) then N_X12_isWrittenBy_74 f0 g0 a0 else some 0
def N_X12_isWrittenBy_90 (f0 : Nat → Int32) (g0 : Nat → Int64) (a0 : Nat → Nat → Int32) : Option Int32 := some 1
def F_X12_isWrittenBy (f0 : Nat → Int32) (g0 : Nat → Int64) (a0 : Nat → Nat → Int32) (p1 : Int32) (p2 : Int32) (p3 : Int32) (p4 : Int32) : Option Int32 := (F_X12_isThere f0 g0 a0 p1 p2 p4).bind fun r1 => (F_X12_isThere f0 g0 a0 p1 p3 p4).bind fun r3 => gd (inB p1 5) (if (a0 2 p1.toNatClampNeg) = 1 then if r1 = 0 then N_X12_isWrittenBy_66 f0 g0 a0 p1 p4 else if r3 = 0 then N_X12_isWrittenBy_66 f0 g0 a0 p1 p4 else N_X12_isWrittenBy_74 f0 g0 a0 else (if (a0 2 p1.toNatClampNeg) = 2 then if r1 = 0 then if r3 = 0 then some 0 else N_X12_isWrittenBy_90 f0 g0 a0 else N_X12_isWrittenBy_90 f0 g0 a0 else (if (a0 2 p1.toNatClampNeg) = 3 then if r1 = 0 then some 0 else if r3 = 0 then some 0 else if (p4 &&& (((((1 : Int32) <<< (p1 &&& 31)) ||| ((1 : Int32) <<< (p2 &&& 31))) ||| ((1 : Int32) <<< (p3 &&& 31))) ^^^ (-1 : Int32))) = 0 then some 1 else some 0 else (if (a0 2 p1.toNatClampNeg) = 4 then some r1 else (if r1 = 0 then some 0 else if r3 = 0 then some 0 else some 1)))))
set_option maxHeartbeats 4000000 in
set_option maxRecDepth 100000 in
theorem c_X12_isWrittenBy (l : Launch) (hz : Nat) (D : va_G) (ad : Nat → Nat) (ck : Nat → ClassId) (f0 : Nat → Int32) (g0 : Nat → Int64) (a0 : Nat → Nat → Int32) (p1 : Int32) (p2 : Int32) (p3 : Int32) (p4 : Int32) (out : Int32) (hF : F_X12_isWrittenBy f0 g0 a0 p1 p2 p3 p4 = some out) : Met l yX12_isWrittenBy wsX12_isWrittenBy ({ frames := 2, cells := 0, slots := 0, locals := 44 }) (kR hz D vwCl (tM ck) (wM ad ck f0 g0 a0) [.ref (ad 0), .int p1, .int p2, .int p3, .int p4]) (kZb out) 0 0 (fun _ => False) := by
  refine Met.ofW (cc := cX12_isWrittenBy) (maxL := 7) (ret := (some .boolean)) (by decide) rfl ?_
  intro p e s m args below meth c s₁ B hml hv
  obtain ⟨rfl, hP, hE⟩ := hv
  have hx := B.exec
  have hb := B.bytes
  have hr := B.returns
  have hts := atoms_spec (ws := wsX12_isWrittenBy) B.pre
  have hown : s.vm.findClass RX12 = some m.cls := findClass_of_methodNamed B.named
  have hlocks := B.notSynchronized
  have hK := hE.1
  have hiX12 : ∀ w ∈ u_ws RX12 TX12 31, w ∈ wsX12_isWrittenBy := by decide +kernel
  have hf7 := hts (.fieldLink RX12 7 "SpeltByFriendsModel" "kindOf" "[I") (by decide +kernel)
  have hN_74 : ∀ (ls : Array Slot), lv_has ls 7 [] → ∀ r : Int32, N_X12_isWrittenBy_74 f0 g0 a0 = some r → (fun r => r = out) r → W p l e (headSpec wsX12_isWrittenBy ({ frames := 2, cells := 0, slots := 0, locals := 44 })).room s m [.ref (ad 0), .int p1, .int p2, .int p3, .int p4].toArray below meth c s.heap [] 0 0 (MQ below (kZb out) [.ref (ad 0), .int p1, .int p2, .int p3, .int p4].toArray s 0 0 (fun _ => False)) (F0 m 74 ls []) := by
    intro  ls hl r hF hp
    unfold N_X12_isWrittenBy_74 at hF
    refine lv_iconst (v := 1) hx hb dX12_isWrittenBy_74 (by decide) ?_
    refine lv_goto (tgt := 79) hx hb dX12_isWrittenBy_75 (by decide) ?_
    have hv := (Option.some.inj hF).trans hp
    exact W.zret hx hb hr rfl (fun t ht hW => ⟨_, rfl, ⟨hv, by rw [← hv]; exact rfl⟩, ht⟩) (fun q hq => by cases hq) dX12_isWrittenBy_79
  have hN_66 : ∀ (x1_66 : Int32) (x4_66 : Int32) (ls : Array Slot), lv_has ls 7 [(1, .int x1_66), (4, .int x4_66)] → ∀ r : Int32, N_X12_isWrittenBy_66 f0 g0 a0 x1_66 x4_66 = some r → (fun r => r = out) r → W p l e (headSpec wsX12_isWrittenBy ({ frames := 2, cells := 0, slots := 0, locals := 44 })).room s m [.ref (ad 0), .int p1, .int p2, .int p3, .int p4].toArray below meth c s.heap [] 0 0 (MQ below (kZb out) [.ref (ad 0), .int p1, .int p2, .int p3, .int p4].toArray s 0 0 (fun _ => False)) (F0 m 66 ls []) := by
    intro x1_66 x4_66 ls hl r hF hp
    unfold N_X12_isWrittenBy_66 at hF
    refine lv_iload hx hb dX12_isWrittenBy_66 (lv_at hl 1 rfl) ?_
    refine lv_iconst (v := 1) hx hb dX12_isWrittenBy_68 (by decide) ?_
    refine lv_iload_n hx hb dX12_isWrittenBy_69 rfl (lv_at hl 0 rfl) ?_
    refine lv_ishl hx hb dX12_isWrittenBy_70 ?_
    refine lv_icmp_ne (tgt := 78) hx hb dX12_isWrittenBy_71 (by decide) (fun hc8 => ?_) (fun hc8 => ?_)
    · have hF := it_n hc8 hF
      refine lv_iconst (v := 0) hx hb dX12_isWrittenBy_78 (by decide) ?_
      have hv := (Option.some.inj hF).trans hp
      exact W.zret hx hb hr rfl (fun t ht hW => ⟨_, rfl, ⟨hv, by rw [← hv]; exact rfl⟩, ht⟩) (fun q hq => by cases hq) dX12_isWrittenBy_79
    · have hF := it_p hc8 hF
      exact hN_74  ls (lv_sub hl [] rfl) _ hF hp
  have hN_90 : ∀ (ls : Array Slot), lv_has ls 7 [] → ∀ r : Int32, N_X12_isWrittenBy_90 f0 g0 a0 = some r → (fun r => r = out) r → W p l e (headSpec wsX12_isWrittenBy ({ frames := 2, cells := 0, slots := 0, locals := 44 })).room s m [.ref (ad 0), .int p1, .int p2, .int p3, .int p4].toArray below meth c s.heap [] 0 0 (MQ below (kZb out) [.ref (ad 0), .int p1, .int p2, .int p3, .int p4].toArray s 0 0 (fun _ => False)) (F0 m 90 ls []) := by
    intro  ls hl r hF hp
    unfold N_X12_isWrittenBy_90 at hF
    refine lv_iconst (v := 1) hx hb dX12_isWrittenBy_90 (by decide) ?_
    refine lv_goto (tgt := 95) hx hb dX12_isWrittenBy_91 (by decide) ?_
    have hv := (Option.some.inj hF).trans hp
    exact W.zret hx hb hr rfl (fun t ht hW => ⟨_, rfl, ⟨hv, by rw [← hv]; exact rfl⟩, ht⟩) (fun q hq => by cases hq) dX12_isWrittenBy_95
  have hl := lv_entry ([.ref (ad 0), .int p1, .int p2, .int p3, .int p4]) (n := 7) (Nat.le_of_ble_eq_true rfl)
  rw [lg_entry_eq]
  generalize (lg_sl ([.ref (ad 0), .int p1, .int p2, .int p3, .int p4]) ++ List.replicate (7 - (lg_sl ([.ref (ad 0), .int p1, .int p2, .int p3, .int p4])).length) Slot.unset).toArray = ls at hl ⊢
  have hl : lv_has ls 7 [(0, .ref (ad 0)), (1, .int p1), (2, .int p2), (3, .int p3), (4, .int p4)] := hl
  obtain ⟨r, hF, hp⟩ : ∃ r, F_X12_isWrittenBy f0 g0 a0 p1 p2 p3 p4 = some r ∧ r = out := ⟨out, hF, rfl⟩
  unfold F_X12_isWrittenBy at hF
  refine lv_aload_n hx hb dX12_isWrittenBy_0 rfl (lv_at hl 0 rfl) ?_
  refine lv_iload_n hx hb dX12_isWrittenBy_1 rfl (lv_at hl 1 rfl) ?_
  refine lv_iload_n hx hb dX12_isWrittenBy_2 rfl (lv_at hl 2 rfl) ?_
  refine lv_iload hx hb dX12_isWrittenBy_3 (lv_at hl 4 rfl) ?_
  obtain ⟨r1, he1, hF⟩ := bd_s hF
  refine kS_b (va_runV (As := [.int p1, .int p2, .int p4]) (rest := []) ⟨hx, hb, hml, hown, hts⟩ (c_X12_isThere l hz D ad ck f0 g0 a0 p1 p2 p4 r1 he1) (cwV 3 hts gX12_isWrittenBy_X12_isThere rfl rfl rfl ⟨rfl, pX12_isThere⟩ ⟨Nat.le_of_ble_eq_true rfl, Nat.le_of_ble_eq_true rfl⟩) (kR.preV (va_recv hK hP (ci := 12) (q0 := 0) rfl rfl) hP hE) rfl rfl hl.1 rfl (lv_room (Nat.le_of_ble_eq_true rfl)) dX12_isWrittenBy_5 ⟨Nat.le_refl _, Nat.le_refl _⟩) (fun hz2 => ?_)
  refine lv_istore (lv' := [(5, .int r1), (0, .ref (ad 0)), (1, .int p1), (2, .int p2), (3, .int p3), (4, .int p4)]) hx hb dX12_isWrittenBy_8 hl (by decide) rfl (fun ls hl => ?_)
  refine lv_aload_n hx hb dX12_isWrittenBy_10 rfl (lv_at hl 1 rfl) ?_
  refine lv_iload_n hx hb dX12_isWrittenBy_11 rfl (lv_at hl 2 rfl) ?_
  refine lv_iload_n hx hb dX12_isWrittenBy_12 rfl (lv_at hl 4 rfl) ?_
  refine lv_iload hx hb dX12_isWrittenBy_13 (lv_at hl 5 rfl) ?_
  obtain ⟨r3, he3, hF⟩ := bd_s hF
  refine kS_b (va_runV (As := [.int p1, .int p3, .int p4]) (rest := []) ⟨hx, hb, hml, hown, hts⟩ (c_X12_isThere l hz D ad ck f0 g0 a0 p1 p3 p4 r3 he3) (cwV 3 hts gX12_isWrittenBy_X12_isThere rfl rfl rfl ⟨rfl, pX12_isThere⟩ ⟨Nat.le_of_ble_eq_true rfl, Nat.le_of_ble_eq_true rfl⟩) (kR.preV (va_recv hK hP (ci := 12) (q0 := 0) rfl rfl) hP hE) rfl rfl hl.1 rfl (lv_room (Nat.le_of_ble_eq_true rfl)) dX12_isWrittenBy_15 ⟨Nat.le_refl _, Nat.le_refl _⟩) (fun hz4 => ?_)
  refine lv_istore (lv' := [(6, .int r3), (5, .int r1), (0, .ref (ad 0)), (1, .int p1), (2, .int p2), (3, .int p3), (4, .int p4)]) hx hb dX12_isWrittenBy_18 hl (by decide) rfl (fun ls hl => ?_)
  refine lv_aload_n hx hb dX12_isWrittenBy_20 rfl (lv_at hl 2 rfl) ?_
  refine va_get (D := D) (ci := 12) (v := .ref (ad 2)) (C := RX12) (T := TX12) (N := 31) hx hb hts hiX12 hown hK hP 0 rfl rfl 2 (by decide) hf7 (fun _ h9 => h9) rfl dX12_isWrittenBy_21 ?_
  refine lv_iload_n hx hb dX12_isWrittenBy_24 rfl (lv_at hl 3 rfl) ?_
  obtain ⟨hg5, hF⟩ := gd_s hF
  refine va_iald hx hb hK hP 1 0 rfl rfl (inB_in hg5) dX12_isWrittenBy_25 ?_
  by_cases hc6 : (a0 2 p1.toNatClampNeg) = 1
  · have hF := it_p hc6 hF
    refine lv_tableIn (tgt := 56) (off := 30) hx hb dX12_isWrittenBy_26 (by rw [hc6]; decide) (by rw [hc6]; decide) (by rw [hc6]; rfl) (by decide) ?_
    refine lv_iload hx hb dX12_isWrittenBy_56 (lv_at hl 1 rfl) ?_
    refine lv_if_eq (tgt := 66) hx hb dX12_isWrittenBy_58 (by decide) (fun hc7 => ?_) (fun hc7 => ?_)
    · have hF := it_p hc7 hF
      exact hN_66 p1 p4 ls (lv_sub hl [3, 6] rfl) _ hF hp
    · have hF := it_n hc7 hF
      refine lv_iload hx hb dX12_isWrittenBy_61 (lv_at hl 0 rfl) ?_
      refine lv_if_ne (tgt := 74) hx hb dX12_isWrittenBy_63 (by decide) (fun hc9 => ?_) (fun hc9 => ?_)
      · have hF := it_n hc9 hF
        exact hN_74  ls (lv_sub hl [] rfl) _ hF hp
      · have hF := it_p hc9 hF
        exact hN_66 p1 p4 ls (lv_sub hl [3, 6] rfl) _ hF hp
  have hF := it_n hc6 hF
  by_cases hc10 : (a0 2 p1.toNatClampNeg) = 2
  · have hF := it_p hc10 hF
    refine lv_tableIn (tgt := 80) (off := 54) hx hb dX12_isWrittenBy_26 (by rw [hc10]; decide) (by rw [hc10]; decide) (by rw [hc10]; rfl) (by decide) ?_
    refine lv_iload hx hb dX12_isWrittenBy_80 (lv_at hl 1 rfl) ?_
    refine lv_if_ne (tgt := 90) hx hb dX12_isWrittenBy_82 (by decide) (fun hc11 => ?_) (fun hc11 => ?_)
    · have hF := it_n hc11 hF
      exact hN_90  ls (lv_sub hl [] rfl) _ hF hp
    · have hF := it_p hc11 hF
      refine lv_iload hx hb dX12_isWrittenBy_85 (lv_at hl 0 rfl) ?_
      refine lv_if_eq (tgt := 94) hx hb dX12_isWrittenBy_87 (by decide) (fun hc12 => ?_) (fun hc12 => ?_)
      · have hF := it_p hc12 hF
        refine lv_iconst (v := 0) hx hb dX12_isWrittenBy_94 (by decide) ?_
        have hv := (Option.some.inj hF).trans hp
        exact W.zret hx hb hr rfl (fun t ht hW => ⟨_, rfl, ⟨hv, by rw [← hv]; exact rfl⟩, ht⟩) (fun q hq => by cases hq) dX12_isWrittenBy_95
      · have hF := it_n hc12 hF
        exact hN_90  ls (lv_sub hl [] rfl) _ hF hp
  have hF := it_n hc10 hF
  by_cases hc13 : (a0 2 p1.toNatClampNeg) = 3
  · have hF := it_p hc13 hF
    refine lv_tableIn (tgt := 96) (off := 70) hx hb dX12_isWrittenBy_26 (by rw [hc13]; decide) (by rw [hc13]; decide) (by rw [hc13]; rfl) (by decide) ?_
    refine lv_iload hx hb dX12_isWrittenBy_96 (lv_at hl 1 rfl) ?_
    refine lv_if_eq (tgt := 129) hx hb dX12_isWrittenBy_98 (by decide) (fun hc14 => ?_) (fun hc14 => ?_)
    · have hF := it_p hc14 hF
      refine lv_iconst (v := 0) hx hb dX12_isWrittenBy_129 (by decide) ?_
      have hv := (Option.some.inj hF).trans hp
      exact W.zret hx hb hr rfl (fun t ht hW => ⟨_, rfl, ⟨hv, by rw [← hv]; exact rfl⟩, ht⟩) (fun q hq => by cases hq) dX12_isWrittenBy_130
    · have hF := it_n hc14 hF
      refine lv_iload hx hb dX12_isWrittenBy_101 (lv_at hl 0 rfl) ?_
      refine lv_if_eq (tgt := 129) hx hb dX12_isWrittenBy_103 (by decide) (fun hc15 => ?_) (fun hc15 => ?_)
      · have hF := it_p hc15 hF
        refine lv_iconst (v := 0) hx hb dX12_isWrittenBy_129 (by decide) ?_
        have hv := (Option.some.inj hF).trans hp
        exact W.zret hx hb hr rfl (fun t ht hW => ⟨_, rfl, ⟨hv, by rw [← hv]; exact rfl⟩, ht⟩) (fun q hq => by cases hq) dX12_isWrittenBy_130
      · have hF := it_n hc15 hF
        refine lv_iload hx hb dX12_isWrittenBy_106 (lv_at hl 6 rfl) ?_
        refine lv_iconst (v := 1) hx hb dX12_isWrittenBy_108 (by decide) ?_
        refine lv_iload_n hx hb dX12_isWrittenBy_109 rfl (lv_at hl 3 rfl) ?_
        refine lv_ishl hx hb dX12_isWrittenBy_110 ?_
        refine lv_iconst (v := 1) hx hb dX12_isWrittenBy_111 (by decide) ?_
        refine lv_iload_n hx hb dX12_isWrittenBy_112 rfl (lv_at hl 4 rfl) ?_
        refine lv_ishl hx hb dX12_isWrittenBy_113 ?_
        refine lv_ior hx hb dX12_isWrittenBy_114 ?_
        refine lv_iconst (v := 1) hx hb dX12_isWrittenBy_115 (by decide) ?_
        refine lv_iload_n hx hb dX12_isWrittenBy_116 rfl (lv_at hl 5 rfl) ?_
        refine lv_ishl hx hb dX12_isWrittenBy_117 ?_
        refine lv_ior hx hb dX12_isWrittenBy_118 ?_
        refine lv_iconst (v := (-1)) hx hb dX12_isWrittenBy_119 (by decide) ?_
        refine lv_ixor hx hb dX12_isWrittenBy_120 ?_
        refine lv_iand hx hb dX12_isWrittenBy_121 ?_
        refine lv_if_ne (tgt := 129) hx hb dX12_isWrittenBy_122 (by decide) (fun hc16 => ?_) (fun hc16 => ?_)
        · have hF := it_n hc16 hF
          refine lv_iconst (v := 0) hx hb dX12_isWrittenBy_129 (by decide) ?_
          have hv := (Option.some.inj hF).trans hp
          exact W.zret hx hb hr rfl (fun t ht hW => ⟨_, rfl, ⟨hv, by rw [← hv]; exact rfl⟩, ht⟩) (fun q hq => by cases hq) dX12_isWrittenBy_130
        · have hF := it_p hc16 hF
          refine lv_iconst (v := 1) hx hb dX12_isWrittenBy_125 (by decide) ?_
          refine lv_goto (tgt := 130) hx hb dX12_isWrittenBy_126 (by decide) ?_
          have hv := (Option.some.inj hF).trans hp
          exact W.zret hx hb hr rfl (fun t ht hW => ⟨_, rfl, ⟨hv, by rw [← hv]; exact rfl⟩, ht⟩) (fun q hq => by cases hq) dX12_isWrittenBy_130
  have hF := it_n hc13 hF
  by_cases hc17 : (a0 2 p1.toNatClampNeg) = 4
  · have hF := it_p hc17 hF
    refine lv_tableIn (tgt := 131) (off := 105) hx hb dX12_isWrittenBy_26 (by rw [hc17]; decide) (by rw [hc17]; decide) (by rw [hc17]; rfl) (by decide) ?_
    refine lv_iload hx hb dX12_isWrittenBy_131 (lv_at hl 1 rfl) ?_
    have hv := (Option.some.inj hF).trans hp
    exact W.zret hx hb hr hz2 (fun t ht hW => ⟨_, rfl, ⟨hv, by rw [← hv]; exact hz2⟩, ht⟩) (fun q hq => by cases hq) dX12_isWrittenBy_133
  have hF := it_n hc17 hF
  refine lv_tableOut (tgt := 134) hx hb dX12_isWrittenBy_26 (by have z0 := lv_neT (a := 1) hc6 (by decide); have z1 := lv_neT (a := 2) hc10 (by decide); have z2 := lv_neT (a := 3) hc13 (by decide); have z3 := lv_neT (a := 4) hc17 (by decide); omega) (by decide) ?_
  refine lv_iload hx hb dX12_isWrittenBy_134 (lv_at hl 1 rfl) ?_
  refine lv_if_eq (tgt := 148) hx hb dX12_isWrittenBy_136 (by decide) (fun hc18 => ?_) (fun hc18 => ?_)
  · have hF := it_p hc18 hF
    refine lv_iconst (v := 0) hx hb dX12_isWrittenBy_148 (by decide) ?_
    have hv := (Option.some.inj hF).trans hp
    exact W.zret hx hb hr rfl (fun t ht hW => ⟨_, rfl, ⟨hv, by rw [← hv]; exact rfl⟩, ht⟩) (fun q hq => by cases hq) dX12_isWrittenBy_149
  · have hF := it_n hc18 hF
    refine lv_iload hx hb dX12_isWrittenBy_139 (lv_at hl 0 rfl) ?_
    refine lv_if_eq (tgt := 148) hx hb dX12_isWrittenBy_141 (by decide) (fun hc19 => ?_) (fun hc19 => ?_)
    · have hF := it_p hc19 hF
      refine lv_iconst (v := 0) hx hb dX12_isWrittenBy_148 (by decide) ?_
      have hv := (Option.some.inj hF).trans hp
      exact W.zret hx hb hr rfl (fun t ht hW => ⟨_, rfl, ⟨hv, by rw [← hv]; exact rfl⟩, ht⟩) (fun q hq => by cases hq) dX12_isWrittenBy_149
    · have hF := it_n hc19 hF
      refine lv_iconst (v := 1) hx hb dX12_isWrittenBy_144 (by decide) ?_
      refine lv_goto (tgt := 149) hx hb dX12_isWrittenBy_145 (by decide) ?_
      have hv := (Option.some.inj hF).trans hp
      exact W.zret hx hb hr rfl (fun t ht hW => ⟨_, rfl, ⟨hv, by rw [← hv]; exact rfl⟩, ht⟩) (fun q hq => by cases hq) dX12_isWrittenBy_149

def F_X12_isWritten (f0 : Nat → Int32) (g0 : Nat → Int64) (a0 : Nat → Nat → Int32) (p1 : Int32) (p2 : Int32) : Option Int32 := gd (inB ((2 : Int32) * p1) 10) (gd (inB (((2 : Int32) * p1) + (1 : Int32)) 10) ((F_X12_isWrittenBy f0 g0 a0 p1 (a0 3 ((2 : Int32) * p1).toNatClampNeg) (a0 3 (((2 : Int32) * p1) + (1 : Int32)).toNatClampNeg) p2).bind fun r3 => some r3))
set_option maxHeartbeats 4000000 in
set_option maxRecDepth 100000 in
theorem c_X12_isWritten (l : Launch) (hz : Nat) (D : va_G) (ad : Nat → Nat) (ck : Nat → ClassId) (f0 : Nat → Int32) (g0 : Nat → Int64) (a0 : Nat → Nat → Int32) (p1 : Int32) (p2 : Int32) (out : Int32) (hF : F_X12_isWritten f0 g0 a0 p1 p2 = some out) : Met l yX12_isWritten wsX12_isWritten ({ frames := 3, cells := 0, slots := 0, locals := 70 }) (kR hz D vwCl (tM ck) (wM ad ck f0 g0 a0) [.ref (ad 0), .int p1, .int p2]) (kZb out) 0 0 (fun _ => False) := by
  refine Met.ofW (cc := cX12_isWritten) (maxL := 3) (ret := (some .boolean)) (by decide) rfl ?_
  intro p e s m args below meth c s₁ B hml hv
  obtain ⟨rfl, hP, hE⟩ := hv
  have hx := B.exec
  have hb := B.bytes
  have hr := B.returns
  have hts := atoms_spec (ws := wsX12_isWritten) B.pre
  have hown : s.vm.findClass RX12 = some m.cls := findClass_of_methodNamed B.named
  have hlocks := B.notSynchronized
  have hK := hE.1
  have hiX12 : ∀ w ∈ u_ws RX12 TX12 31, w ∈ wsX12_isWritten := by decide +kernel
  have hf13 := hts (.fieldLink RX12 13 "SpeltByFriendsModel" "holderOf" "[I") (by decide +kernel)
  have hl := lv_entry ([.ref (ad 0), .int p1, .int p2]) (n := 3) (Nat.le_of_ble_eq_true rfl)
  rw [lg_entry_eq]
  generalize (lg_sl ([.ref (ad 0), .int p1, .int p2]) ++ List.replicate (3 - (lg_sl ([.ref (ad 0), .int p1, .int p2])).length) Slot.unset).toArray = ls at hl ⊢
  have hl : lv_has ls 3 [(0, .ref (ad 0)), (1, .int p1), (2, .int p2)] := hl
  obtain ⟨r, hF, hp⟩ : ∃ r, F_X12_isWritten f0 g0 a0 p1 p2 = some r ∧ r = out := ⟨out, hF, rfl⟩
  unfold F_X12_isWritten at hF
  refine lv_aload_n hx hb dX12_isWritten_0 rfl (lv_at hl 0 rfl) ?_
  refine lv_iload_n hx hb dX12_isWritten_1 rfl (lv_at hl 1 rfl) ?_
  refine lv_aload_n hx hb dX12_isWritten_2 rfl (lv_at hl 0 rfl) ?_
  refine va_get (D := D) (ci := 12) (v := .ref (ad 3)) (C := RX12) (T := TX12) (N := 31) hx hb hts hiX12 hown hK hP 0 rfl rfl 3 (by decide) hf13 (fun _ h9 => h9) rfl dX12_isWritten_3 ?_
  refine lv_iconst (v := 2) hx hb dX12_isWritten_6 (by decide) ?_
  refine lv_iload_n hx hb dX12_isWritten_7 rfl (lv_at hl 1 rfl) ?_
  refine lv_imul hx hb dX12_isWritten_8 ?_
  obtain ⟨hg1, hF⟩ := gd_s hF
  refine va_iald hx hb hK hP 2 1 rfl rfl (inB_in hg1) dX12_isWritten_9 ?_
  refine lv_aload_n hx hb dX12_isWritten_10 rfl (lv_at hl 0 rfl) ?_
  refine va_get (D := D) (ci := 12) (v := .ref (ad 3)) (C := RX12) (T := TX12) (N := 31) hx hb hts hiX12 hown hK hP 0 rfl rfl 3 (by decide) hf13 (fun _ h9 => h9) rfl dX12_isWritten_11 ?_
  refine lv_iconst (v := 2) hx hb dX12_isWritten_14 (by decide) ?_
  refine lv_iload_n hx hb dX12_isWritten_15 rfl (lv_at hl 1 rfl) ?_
  refine lv_imul hx hb dX12_isWritten_16 ?_
  refine lv_iconst (v := 1) hx hb dX12_isWritten_17 (by decide) ?_
  refine lv_iadd hx hb dX12_isWritten_18 ?_
  obtain ⟨hg2, hF⟩ := gd_s hF
  refine va_iald hx hb hK hP 2 1 rfl rfl (inB_in hg2) dX12_isWritten_19 ?_
  refine lv_iload_n hx hb dX12_isWritten_20 rfl (lv_at hl 2 rfl) ?_
  obtain ⟨r3, he3, hF⟩ := bd_s hF
  refine kS_b (va_runV (As := [.int p1, .int (a0 3 ((2 : Int32) * p1).toNatClampNeg), .int (a0 3 (((2 : Int32) * p1) + (1 : Int32)).toNatClampNeg), .int p2]) (rest := []) ⟨hx, hb, hml, hown, hts⟩ (c_X12_isWrittenBy l hz D ad ck f0 g0 a0 p1 (a0 3 ((2 : Int32) * p1).toNatClampNeg) (a0 3 (((2 : Int32) * p1) + (1 : Int32)).toNatClampNeg) p2 r3 he3) (cwV 4 hts gX12_isWritten_X12_isWrittenBy rfl rfl rfl ⟨rfl, pX12_isWrittenBy⟩ ⟨Nat.le_of_ble_eq_true rfl, Nat.le_of_ble_eq_true rfl⟩) (kR.preV (va_recv hK hP (ci := 12) (q0 := 0) rfl rfl) hP hE) rfl rfl hl.1 rfl (lv_room (Nat.le_of_ble_eq_true rfl)) dX12_isWritten_21 ⟨Nat.le_refl _, Nat.le_refl _⟩) (fun hz4 => ?_)
  have hv := (Option.some.inj hF).trans hp
  exact W.zret hx hb hr hz4 (fun t ht hW => ⟨_, rfl, ⟨hv, by rw [← hv]; exact hz4⟩, ht⟩) (fun q hq => by cases hq) dX12_isWritten_24

def N_X12_companyOf_35 (f0 : Nat → Int32) (g0 : Nat → Int64) (a0 : Nat → Nat → Int32) (x1_4 : Int32) (x3_35 : Int32) (t0_35 : Int32) (t1_35 : Int32) : Option ((Int32 × Int32) ⊕ Int32) := some (.inl ((t1_35 ||| t0_35), (x3_35 + 1)))
def B_X12_companyOf_4 (f0 : Nat → Int32) (g0 : Nat → Int64) (a0 : Nat → Nat → Int32) (x1_4 : Int32) (x2_4 : Int32) (x3_4 : Int32) : Option ((Int32 × Int32) ⊕ Int32) := if (f0 1) ≤ x3_4 then Option.map Sum.inr (some x2_4) else gd (inB x3_4 5) (gd (inB x1_4 5) (if (a0 4 x3_4.toNatClampNeg) = (a0 4 x1_4.toNatClampNeg) then N_X12_companyOf_35 f0 g0 a0 x1_4 x3_4 ((1 : Int32) <<< (x3_4 &&& 31)) x2_4 else N_X12_companyOf_35 f0 g0 a0 x1_4 x3_4 0 x2_4))
def N_X12_companyOf_4 (f0 : Nat → Int32) (g0 : Nat → Int64) (a0 : Nat → Nat → Int32) (x1_4 : Int32) (x2_4 : Int32) (x3_4 : Int32) : Option Int32 := lpN (fun q4 : (Int32 × Int32) => B_X12_companyOf_4 f0 g0 a0 x1_4 q4.1 q4.2) kFu (x2_4, x3_4)
def F_X12_companyOf (f0 : Nat → Int32) (g0 : Nat → Int64) (a0 : Nat → Nat → Int32) (p1 : Int32) : Option Int32 := N_X12_companyOf_4 f0 g0 a0 p1 0 0
set_option maxHeartbeats 4000000 in
set_option maxRecDepth 100000 in
theorem c_X12_companyOf (l : Launch) (hz : Nat) (D : va_G) (ad : Nat → Nat) (ck : Nat → ClassId) (f0 : Nat → Int32) (g0 : Nat → Int64) (a0 : Nat → Nat → Int32) (p1 : Int32) (out : Int32) (hF : F_X12_companyOf f0 g0 a0 p1 = some out) : Met l yX12_companyOf wsX12_companyOf ({ frames := 0, cells := 0, slots := 0, locals := 0 }) (kR hz D vwCl (tM ck) (wM ad ck f0 g0 a0) [.ref (ad 0), .int p1]) (kZi out) 0 0 (fun _ => False) := by
  refine Met.ofW (cc := cX12_companyOf) (maxL := 4) (ret := (some .int)) (by decide) rfl ?_
  intro p e s m args below meth c s₁ B hml hv
  obtain ⟨rfl, hP, hE⟩ := hv
  have hx := B.exec
  have hb := B.bytes
  have hr := B.returns
  have hts := atoms_spec (ws := wsX12_companyOf) B.pre
  have hown : s.vm.findClass RX12 = some m.cls := findClass_of_methodNamed B.named
  have hlocks := B.notSynchronized
  have hK := hE.1
  have hiX12 : ∀ w ∈ u_ws RX12 TX12 31, w ∈ wsX12_companyOf := by decide +kernel
  have hf16 := hts (.fieldLink RX12 16 "SpeltByFriendsModel" "roomOf" "[I") (by decide +kernel)
  have hf83 := hts (.fieldLink RX12 83 "SpeltByFriendsModel" "people" "I") (by decide +kernel)
  have hN_4 : ∀ (x1_4 : Int32) (n4 : Nat) (x2_4 : Int32) (x3_4 : Int32) (ls : Array Slot), lv_has ls 4 [(0, .ref (ad 0)), (1, .int x1_4), (2, .int x2_4), (3, .int x3_4)] → ∀ r : Int32, lpN (fun q4 : (Int32 × Int32) => B_X12_companyOf_4 f0 g0 a0 x1_4 q4.1 q4.2) n4 (x2_4, x3_4) = some r → (fun r => r = out) r → W p l e (headSpec wsX12_companyOf ({ frames := 0, cells := 0, slots := 0, locals := 0 })).room s m [.ref (ad 0), .int p1].toArray below meth c s.heap [] 0 0 (MQ below (kZi out) [.ref (ad 0), .int p1].toArray s 0 0 (fun _ => False)) (F0 m 4 ls []) := by
    intro x1_4 n4
    induction n4 with
    | zero => intro x2_4 x3_4 ls hl r hF hp; exact (lp_z hF).elim
    | succ n4 ih4 =>
      intro x2_4 x3_4 ls hl r hF hp
      obtain ⟨rs, hF, hp⟩ := lpN_K (P := (fun r => r = out)) hF hp
      have hN_35 : ∀ (x3_35 : Int32) (t0_35 : Int32) (t1_35 : Int32) (ls : Array Slot), lv_has ls 4 [(0, .ref (ad 0)), (1, .int x1_4), (3, .int x3_35)] → ∀ r : ((Int32 × Int32) ⊕ Int32), N_X12_companyOf_35 f0 g0 a0 x1_4 x3_35 t0_35 t1_35 = some r → (lpK (fun q4 : (Int32 × Int32) => B_X12_companyOf_4 f0 g0 a0 x1_4 q4.1 q4.2) n4 (fun r => r = out)) r → W p l e (headSpec wsX12_companyOf ({ frames := 0, cells := 0, slots := 0, locals := 0 })).room s m [.ref (ad 0), .int p1].toArray below meth c s.heap [] 0 0 (MQ below (kZi out) [.ref (ad 0), .int p1].toArray s 0 0 (fun _ => False)) (F0 m 35 ls [.int t0_35, .int t1_35]) := by
        intro x3_35 t0_35 t1_35 ls hl r hF hp
        unfold N_X12_companyOf_35 at hF
        refine lv_ior hx hb dX12_companyOf_35 ?_
        refine lv_istore_n (lv' := [(2, .int (t1_35 ||| t0_35)), (0, .ref (ad 0)), (1, .int x1_4), (3, .int x3_35)]) hx hb dX12_companyOf_36 rfl hl (by decide) rfl (fun ls hl => ?_)
        refine lv_iinc (v := (x3_35 + 1)) (lv' := [(3, .int (x3_35 + 1)), (2, .int (t1_35 ||| t0_35)), (0, .ref (ad 0)), (1, .int x1_4)]) hx hb dX12_companyOf_37 hl (k := 3) rfl rfl (by decide) rfl (fun ls hl => ?_)
        refine lv_goto (tgt := 4) hx hb dX12_companyOf_40 (by decide) ?_
        have hF := Option.some.inj hF
        subst hF
        obtain ⟨r, hF, hp⟩ := hp
        exact ih4 (t1_35 ||| t0_35) (x3_35 + 1) ls (lv_sub hl [2, 3, 1, 0] rfl) r hF hp
      unfold B_X12_companyOf_4 at hF
      refine lv_iload_n hx hb dX12_companyOf_4 rfl (lv_at hl 3 rfl) ?_
      refine lv_aload_n hx hb dX12_companyOf_5 rfl (lv_at hl 0 rfl) ?_
      refine va_get (D := D) (ci := 12) (v := .int (f0 1)) (C := RX12) (T := TX12) (N := 31) hx hb hts hiX12 hown hK hP 0 rfl rfl 1 (by decide) hf83 (fun _ h9 => h9) rfl dX12_companyOf_6 ?_
      refine lv_icmp_ge (tgt := 43) hx hb dX12_companyOf_9 (by decide) (fun hc1 => ?_) (fun hc1 => ?_)
      · have hF := it_p hc1 hF
        obtain ⟨r, hF1, hr0⟩ := mp_s hF
        clear hF
        subst hr0
        have hF := hF1
        clear hF1
        have hp : (fun r => r = out) r := hp
        refine lv_iload_n hx hb dX12_companyOf_43 rfl (lv_at hl 2 rfl) ?_
        exact W.iret hx hb hr (fun t ht hW => ⟨_, rfl, (Option.some.inj hF).trans hp, ht⟩) (fun q hq => by cases hq) dX12_companyOf_44
      · have hF := it_n hc1 hF
        refine lv_iload_n hx hb dX12_companyOf_12 rfl (lv_at hl 2 rfl) ?_
        refine lv_aload_n hx hb dX12_companyOf_13 rfl (lv_at hl 0 rfl) ?_
        refine va_get (D := D) (ci := 12) (v := .ref (ad 4)) (C := RX12) (T := TX12) (N := 31) hx hb hts hiX12 hown hK hP 0 rfl rfl 4 (by decide) hf16 (fun _ h9 => h9) rfl dX12_companyOf_14 ?_
        refine lv_iload_n hx hb dX12_companyOf_17 rfl (lv_at hl 3 rfl) ?_
        obtain ⟨hg2, hF⟩ := gd_s hF
        refine va_iald hx hb hK hP 3 2 rfl rfl (inB_in hg2) dX12_companyOf_18 ?_
        refine lv_aload_n hx hb dX12_companyOf_19 rfl (lv_at hl 0 rfl) ?_
        refine va_get (D := D) (ci := 12) (v := .ref (ad 4)) (C := RX12) (T := TX12) (N := 31) hx hb hts hiX12 hown hK hP 0 rfl rfl 4 (by decide) hf16 (fun _ h9 => h9) rfl dX12_companyOf_20 ?_
        refine lv_iload_n hx hb dX12_companyOf_23 rfl (lv_at hl 1 rfl) ?_
        obtain ⟨hg3, hF⟩ := gd_s hF
        refine va_iald hx hb hK hP 3 2 rfl rfl (inB_in hg3) dX12_companyOf_24 ?_
        refine lv_icmp_ne (tgt := 34) hx hb dX12_companyOf_25 (by decide) (fun hc4 => ?_) (fun hc4 => ?_)
        · have hF := it_n hc4 hF
          refine lv_iconst (v := 0) hx hb dX12_companyOf_34 (by decide) ?_
          exact hN_35 x3_4 0 x2_4 ls (lv_sub hl [0, 1, 3] rfl) _ hF hp
        · have hF := it_p hc4 hF
          refine lv_iconst (v := 1) hx hb dX12_companyOf_28 (by decide) ?_
          refine lv_iload_n hx hb dX12_companyOf_29 rfl (lv_at hl 3 rfl) ?_
          refine lv_ishl hx hb dX12_companyOf_30 ?_
          refine lv_goto (tgt := 35) hx hb dX12_companyOf_31 (by decide) ?_
          exact hN_35 x3_4 ((1 : Int32) <<< (x3_4 &&& 31)) x2_4 ls (lv_sub hl [0, 1, 3] rfl) _ hF hp
  have hl := lv_entry ([.ref (ad 0), .int p1]) (n := 4) (Nat.le_of_ble_eq_true rfl)
  rw [lg_entry_eq]
  generalize (lg_sl ([.ref (ad 0), .int p1]) ++ List.replicate (4 - (lg_sl ([.ref (ad 0), .int p1])).length) Slot.unset).toArray = ls at hl ⊢
  have hl : lv_has ls 4 [(0, .ref (ad 0)), (1, .int p1)] := hl
  obtain ⟨r, hF, hp⟩ : ∃ r, F_X12_companyOf f0 g0 a0 p1 = some r ∧ r = out := ⟨out, hF, rfl⟩
  unfold F_X12_companyOf at hF
  refine lv_iconst (v := 0) hx hb dX12_companyOf_0 (by decide) ?_
  refine lv_istore_n (lv' := [(2, .int 0), (0, .ref (ad 0)), (1, .int p1)]) hx hb dX12_companyOf_1 rfl hl (by decide) rfl (fun ls hl => ?_)
  refine lv_iconst (v := 0) hx hb dX12_companyOf_2 (by decide) ?_
  refine lv_istore_n (lv' := [(3, .int 0), (2, .int 0), (0, .ref (ad 0)), (1, .int p1)]) hx hb dX12_companyOf_3 rfl hl (by decide) rfl (fun ls hl => ?_)
  exact hN_4 p1 kFu 0 0 ls (lv_sub hl [2, 3, 1, 0] rfl) _ hF hp

def F_X12_isWrittenNow (f0 : Nat → Int32) (g0 : Nat → Int64) (a0 : Nat → Nat → Int32) (p1 : Int32) : Option Int32 := (F_X12_companyOf f0 g0 a0 p1).bind fun r1 => (F_X12_isWritten f0 g0 a0 p1 r1).bind fun r2 => some r2
set_option maxHeartbeats 4000000 in
set_option maxRecDepth 100000 in
theorem c_X12_isWrittenNow (l : Launch) (hz : Nat) (D : va_G) (ad : Nat → Nat) (ck : Nat → ClassId) (f0 : Nat → Int32) (g0 : Nat → Int64) (a0 : Nat → Nat → Int32) (p1 : Int32) (out : Int32) (hF : F_X12_isWrittenNow f0 g0 a0 p1 = some out) : Met l yX12_isWrittenNow wsX12_isWrittenNow ({ frames := 4, cells := 0, slots := 0, locals := 92 }) (kR hz D vwCl (tM ck) (wM ad ck f0 g0 a0) [.ref (ad 0), .int p1]) (kZb out) 0 0 (fun _ => False) := by
  refine Met.ofW (cc := cX12_isWrittenNow) (maxL := 2) (ret := (some .boolean)) (by decide) rfl ?_
  intro p e s m args below meth c s₁ B hml hv
  obtain ⟨rfl, hP, hE⟩ := hv
  have hx := B.exec
  have hb := B.bytes
  have hr := B.returns
  have hts := atoms_spec (ws := wsX12_isWrittenNow) B.pre
  have hown : s.vm.findClass RX12 = some m.cls := findClass_of_methodNamed B.named
  have hlocks := B.notSynchronized
  have hK := hE.1
  have hl := lv_entry ([.ref (ad 0), .int p1]) (n := 2) (Nat.le_of_ble_eq_true rfl)
  rw [lg_entry_eq]
  generalize (lg_sl ([.ref (ad 0), .int p1]) ++ List.replicate (2 - (lg_sl ([.ref (ad 0), .int p1])).length) Slot.unset).toArray = ls at hl ⊢
  have hl : lv_has ls 2 [(0, .ref (ad 0)), (1, .int p1)] := hl
  obtain ⟨r, hF, hp⟩ : ∃ r, F_X12_isWrittenNow f0 g0 a0 p1 = some r ∧ r = out := ⟨out, hF, rfl⟩
  unfold F_X12_isWrittenNow at hF
  refine lv_aload_n hx hb dX12_isWrittenNow_0 rfl (lv_at hl 0 rfl) ?_
  refine lv_iload_n hx hb dX12_isWrittenNow_1 rfl (lv_at hl 1 rfl) ?_
  refine lv_aload_n hx hb dX12_isWrittenNow_2 rfl (lv_at hl 0 rfl) ?_
  refine lv_iload_n hx hb dX12_isWrittenNow_3 rfl (lv_at hl 1 rfl) ?_
  obtain ⟨r1, he1, hF⟩ := bd_s hF
  refine kS_i (va_runV (As := [.int p1]) (rest := [.int p1, .ref (ad 0)]) ⟨hx, hb, hml, hown, hts⟩ (c_X12_companyOf l hz D ad ck f0 g0 a0 p1 r1 he1) (cwV 1 hts gX12_isWrittenNow_X12_companyOf rfl rfl rfl ⟨rfl, pX12_companyOf⟩ ⟨Nat.le_of_ble_eq_true rfl, Nat.le_of_ble_eq_true rfl⟩) (kR.preV (va_recv hK hP (ci := 12) (q0 := 0) rfl rfl) hP hE) rfl rfl hl.1 rfl (lv_room (Nat.le_of_ble_eq_true rfl)) dX12_isWrittenNow_4 ⟨Nat.le_refl _, Nat.le_refl _⟩) ?_
  obtain ⟨r2, he2, hF⟩ := bd_s hF
  refine kS_b (va_runV (As := [.int p1, .int r1]) (rest := []) ⟨hx, hb, hml, hown, hts⟩ (c_X12_isWritten l hz D ad ck f0 g0 a0 p1 r1 r2 he2) (cwV 2 hts gX12_isWrittenNow_X12_isWritten rfl rfl rfl ⟨rfl, pX12_isWritten⟩ ⟨Nat.le_of_ble_eq_true rfl, Nat.le_of_ble_eq_true rfl⟩) (kR.preV (va_recv hK hP (ci := 12) (q0 := 0) rfl rfl) hP hE) rfl rfl hl.1 rfl (lv_room (Nat.le_of_ble_eq_true rfl)) dX12_isWrittenNow_7 ⟨Nat.le_refl _, Nat.le_refl _⟩) (fun hz3 => ?_)
  have hv := (Option.some.inj hF).trans hp
  exact W.zret hx hb hr hz3 (fun t ht hW => ⟨_, rfl, ⟨hv, by rw [← hv]; exact hz3⟩, ht⟩) (fun q hq => by cases hq) dX12_isWrittenNow_10

def N_X12_lettersOf_37 (f0 : Nat → Int32) (g0 : Nat → Int64) (a0 : Nat → Nat → Int32) (x1_4 : Int32) (x3_37 : Int32) (t0_37 : Int32) (t1_37 : Int32) : Option ((Int32 × Int32) ⊕ Int32) := some (.inl ((t1_37 + t0_37), (x3_37 + 1)))
def N_X12_lettersOf_36 (f0 : Nat → Int32) (g0 : Nat → Int64) (a0 : Nat → Nat → Int32) (x1_4 : Int32) (x3_36 : Int32) (t0_36 : Int32) : Option ((Int32 × Int32) ⊕ Int32) := N_X12_lettersOf_37 f0 g0 a0 x1_4 x3_36 0 t0_36
def B_X12_lettersOf_4 (f0 : Nat → Int32) (g0 : Nat → Int64) (a0 : Nat → Nat → Int32) (x1_4 : Int32) (x2_4 : Int32) (x3_4 : Int32) : Option ((Int32 × Int32) ⊕ Int32) := if ((2 : Int32) * (f0 1)) ≤ x3_4 then Option.map Sum.inr (some x2_4) else gd (inB x3_4 10) (if (a0 3 x3_4.toNatClampNeg) = x1_4 then if (x3_4 / 2) = x1_4 then N_X12_lettersOf_36 f0 g0 a0 x1_4 x3_4 x2_4 else N_X12_lettersOf_37 f0 g0 a0 x1_4 x3_4 1 x2_4 else N_X12_lettersOf_36 f0 g0 a0 x1_4 x3_4 x2_4)
def N_X12_lettersOf_4 (f0 : Nat → Int32) (g0 : Nat → Int64) (a0 : Nat → Nat → Int32) (x1_4 : Int32) (x2_4 : Int32) (x3_4 : Int32) : Option Int32 := lpN (fun q4 : (Int32 × Int32) => B_X12_lettersOf_4 f0 g0 a0 x1_4 q4.1 q4.2) kFu (x2_4, x3_4)
def F_X12_lettersOf (f0 : Nat → Int32) (g0 : Nat → Int64) (a0 : Nat → Nat → Int32) (p1 : Int32) : Option Int32 := N_X12_lettersOf_4 f0 g0 a0 p1 0 0
set_option maxHeartbeats 4000000 in
set_option maxRecDepth 100000 in
theorem c_X12_lettersOf (l : Launch) (hz : Nat) (D : va_G) (ad : Nat → Nat) (ck : Nat → ClassId) (f0 : Nat → Int32) (g0 : Nat → Int64) (a0 : Nat → Nat → Int32) (p1 : Int32) (out : Int32) (hF : F_X12_lettersOf f0 g0 a0 p1 = some out) : Met l yX12_lettersOf wsX12_lettersOf ({ frames := 0, cells := 0, slots := 0, locals := 0 }) (kR hz D vwCl (tM ck) (wM ad ck f0 g0 a0) [.ref (ad 0), .int p1]) (kZi out) 0 0 (fun _ => False) := by
  refine Met.ofW (cc := cX12_lettersOf) (maxL := 4) (ret := (some .int)) (by decide) rfl ?_
  intro p e s m args below meth c s₁ B hml hv
  obtain ⟨rfl, hP, hE⟩ := hv
  have hx := B.exec
  have hb := B.bytes
  have hr := B.returns
  have hts := atoms_spec (ws := wsX12_lettersOf) B.pre
  have hown : s.vm.findClass RX12 = some m.cls := findClass_of_methodNamed B.named
  have hlocks := B.notSynchronized
  have hK := hE.1
  have hiX12 : ∀ w ∈ u_ws RX12 TX12 31, w ∈ wsX12_lettersOf := by decide +kernel
  have hf13 := hts (.fieldLink RX12 13 "SpeltByFriendsModel" "holderOf" "[I") (by decide +kernel)
  have hf83 := hts (.fieldLink RX12 83 "SpeltByFriendsModel" "people" "I") (by decide +kernel)
  have hN_4 : ∀ (x1_4 : Int32) (n4 : Nat) (x2_4 : Int32) (x3_4 : Int32) (ls : Array Slot), lv_has ls 4 [(0, .ref (ad 0)), (1, .int x1_4), (2, .int x2_4), (3, .int x3_4)] → ∀ r : Int32, lpN (fun q4 : (Int32 × Int32) => B_X12_lettersOf_4 f0 g0 a0 x1_4 q4.1 q4.2) n4 (x2_4, x3_4) = some r → (fun r => r = out) r → W p l e (headSpec wsX12_lettersOf ({ frames := 0, cells := 0, slots := 0, locals := 0 })).room s m [.ref (ad 0), .int p1].toArray below meth c s.heap [] 0 0 (MQ below (kZi out) [.ref (ad 0), .int p1].toArray s 0 0 (fun _ => False)) (F0 m 4 ls []) := by
    intro x1_4 n4
    induction n4 with
    | zero => intro x2_4 x3_4 ls hl r hF hp; exact (lp_z hF).elim
    | succ n4 ih4 =>
      intro x2_4 x3_4 ls hl r hF hp
      obtain ⟨rs, hF, hp⟩ := lpN_K (P := (fun r => r = out)) hF hp
      have hN_37 : ∀ (x3_37 : Int32) (t0_37 : Int32) (t1_37 : Int32) (ls : Array Slot), lv_has ls 4 [(0, .ref (ad 0)), (1, .int x1_4), (3, .int x3_37)] → ∀ r : ((Int32 × Int32) ⊕ Int32), N_X12_lettersOf_37 f0 g0 a0 x1_4 x3_37 t0_37 t1_37 = some r → (lpK (fun q4 : (Int32 × Int32) => B_X12_lettersOf_4 f0 g0 a0 x1_4 q4.1 q4.2) n4 (fun r => r = out)) r → W p l e (headSpec wsX12_lettersOf ({ frames := 0, cells := 0, slots := 0, locals := 0 })).room s m [.ref (ad 0), .int p1].toArray below meth c s.heap [] 0 0 (MQ below (kZi out) [.ref (ad 0), .int p1].toArray s 0 0 (fun _ => False)) (F0 m 37 ls [.int t0_37, .int t1_37]) := by
        intro x3_37 t0_37 t1_37 ls hl r hF hp
        unfold N_X12_lettersOf_37 at hF
        refine lv_iadd hx hb dX12_lettersOf_37 ?_
        refine lv_istore_n (lv' := [(2, .int (t1_37 + t0_37)), (0, .ref (ad 0)), (1, .int x1_4), (3, .int x3_37)]) hx hb dX12_lettersOf_38 rfl hl (by decide) rfl (fun ls hl => ?_)
        refine lv_iinc (v := (x3_37 + 1)) (lv' := [(3, .int (x3_37 + 1)), (2, .int (t1_37 + t0_37)), (0, .ref (ad 0)), (1, .int x1_4)]) hx hb dX12_lettersOf_39 hl (k := 3) rfl rfl (by decide) rfl (fun ls hl => ?_)
        refine lv_goto (tgt := 4) hx hb dX12_lettersOf_42 (by decide) ?_
        have hF := Option.some.inj hF
        subst hF
        obtain ⟨r, hF, hp⟩ := hp
        exact ih4 (t1_37 + t0_37) (x3_37 + 1) ls (lv_sub hl [2, 3, 1, 0] rfl) r hF hp
      have hN_36 : ∀ (x3_36 : Int32) (t0_36 : Int32) (ls : Array Slot), lv_has ls 4 [(0, .ref (ad 0)), (1, .int x1_4), (3, .int x3_36)] → ∀ r : ((Int32 × Int32) ⊕ Int32), N_X12_lettersOf_36 f0 g0 a0 x1_4 x3_36 t0_36 = some r → (lpK (fun q4 : (Int32 × Int32) => B_X12_lettersOf_4 f0 g0 a0 x1_4 q4.1 q4.2) n4 (fun r => r = out)) r → W p l e (headSpec wsX12_lettersOf ({ frames := 0, cells := 0, slots := 0, locals := 0 })).room s m [.ref (ad 0), .int p1].toArray below meth c s.heap [] 0 0 (MQ below (kZi out) [.ref (ad 0), .int p1].toArray s 0 0 (fun _ => False)) (F0 m 36 ls [.int t0_36]) := by
        intro x3_36 t0_36 ls hl r hF hp
        unfold N_X12_lettersOf_36 at hF
        refine lv_iconst (v := 0) hx hb dX12_lettersOf_36 (by decide) ?_
        exact hN_37 x3_36 0 t0_36 ls (lv_sub hl [0, 1, 2] rfl) _ hF hp
      unfold B_X12_lettersOf_4 at hF
      refine lv_iload_n hx hb dX12_lettersOf_4 rfl (lv_at hl 3 rfl) ?_
      refine lv_iconst (v := 2) hx hb dX12_lettersOf_5 (by decide) ?_
      refine lv_aload_n hx hb dX12_lettersOf_6 rfl (lv_at hl 0 rfl) ?_
      refine va_get (D := D) (ci := 12) (v := .int (f0 1)) (C := RX12) (T := TX12) (N := 31) hx hb hts hiX12 hown hK hP 0 rfl rfl 1 (by decide) hf83 (fun _ h9 => h9) rfl dX12_lettersOf_7 ?_
      refine lv_imul hx hb dX12_lettersOf_10 ?_
      refine lv_icmp_ge (tgt := 45) hx hb dX12_lettersOf_11 (by decide) (fun hc1 => ?_) (fun hc1 => ?_)
      · have hF := it_p hc1 hF
        obtain ⟨r, hF1, hr0⟩ := mp_s hF
        clear hF
        subst hr0
        have hF := hF1
        clear hF1
        have hp : (fun r => r = out) r := hp
        refine lv_iload_n hx hb dX12_lettersOf_45 rfl (lv_at hl 2 rfl) ?_
        exact W.iret hx hb hr (fun t ht hW => ⟨_, rfl, (Option.some.inj hF).trans hp, ht⟩) (fun q hq => by cases hq) dX12_lettersOf_46
      · have hF := it_n hc1 hF
        refine lv_iload_n hx hb dX12_lettersOf_14 rfl (lv_at hl 2 rfl) ?_
        refine lv_aload_n hx hb dX12_lettersOf_15 rfl (lv_at hl 0 rfl) ?_
        refine va_get (D := D) (ci := 12) (v := .ref (ad 3)) (C := RX12) (T := TX12) (N := 31) hx hb hts hiX12 hown hK hP 0 rfl rfl 3 (by decide) hf13 (fun _ h9 => h9) rfl dX12_lettersOf_16 ?_
        refine lv_iload_n hx hb dX12_lettersOf_19 rfl (lv_at hl 3 rfl) ?_
        obtain ⟨hg2, hF⟩ := gd_s hF
        refine va_iald hx hb hK hP 2 1 rfl rfl (inB_in hg2) dX12_lettersOf_20 ?_
        refine lv_iload_n hx hb dX12_lettersOf_21 rfl (lv_at hl 1 rfl) ?_
        refine lv_icmp_ne (tgt := 36) hx hb dX12_lettersOf_22 (by decide) (fun hc3 => ?_) (fun hc3 => ?_)
        · have hF := it_n hc3 hF
          exact hN_36 x3_4 x2_4 ls (lv_sub hl [0, 1, 3] rfl) _ hF hp
        · have hF := it_p hc3 hF
          refine lv_iload_n hx hb dX12_lettersOf_25 rfl (lv_at hl 3 rfl) ?_
          refine lv_iconst (v := 2) hx hb dX12_lettersOf_26 (by decide) ?_
          refine lv_idiv hx hb dX12_lettersOf_27 (by decide) ?_
          refine lv_iload_n hx hb dX12_lettersOf_28 rfl (lv_at hl 1 rfl) ?_
          refine lv_icmp_eq (tgt := 36) hx hb dX12_lettersOf_29 (by decide) (fun hc4 => ?_) (fun hc4 => ?_)
          · have hF := it_p hc4 hF
            exact hN_36 x3_4 x2_4 ls (lv_sub hl [0, 1, 3] rfl) _ hF hp
          · have hF := it_n hc4 hF
            refine lv_iconst (v := 1) hx hb dX12_lettersOf_32 (by decide) ?_
            refine lv_goto (tgt := 37) hx hb dX12_lettersOf_33 (by decide) ?_
            exact hN_37 x3_4 1 x2_4 ls (lv_sub hl [0, 1, 3] rfl) _ hF hp
  have hl := lv_entry ([.ref (ad 0), .int p1]) (n := 4) (Nat.le_of_ble_eq_true rfl)
  rw [lg_entry_eq]
  generalize (lg_sl ([.ref (ad 0), .int p1]) ++ List.replicate (4 - (lg_sl ([.ref (ad 0), .int p1])).length) Slot.unset).toArray = ls at hl ⊢
  have hl : lv_has ls 4 [(0, .ref (ad 0)), (1, .int p1)] := hl
  obtain ⟨r, hF, hp⟩ : ∃ r, F_X12_lettersOf f0 g0 a0 p1 = some r ∧ r = out := ⟨out, hF, rfl⟩
  unfold F_X12_lettersOf at hF
  refine lv_iconst (v := 0) hx hb dX12_lettersOf_0 (by decide) ?_
  refine lv_istore_n (lv' := [(2, .int 0), (0, .ref (ad 0)), (1, .int p1)]) hx hb dX12_lettersOf_1 rfl hl (by decide) rfl (fun ls hl => ?_)
  refine lv_iconst (v := 0) hx hb dX12_lettersOf_2 (by decide) ?_
  refine lv_istore_n (lv' := [(3, .int 0), (2, .int 0), (0, .ref (ad 0)), (1, .int p1)]) hx hb dX12_lettersOf_3 rfl hl (by decide) rfl (fun ls hl => ?_)
  exact hN_4 p1 kFu 0 0 ls (lv_sub hl [2, 3, 1, 0] rfl) _ hF hp

def N_X12_wantsOf_51 (f0 : Nat → Int32) (g0 : Nat → Int64) (a0 : Nat → Nat → Int32) (x1_17 : Int32) (x3_51 : Int32) (t0_51 : Int32) : Option ((Int32 × Int32) ⊕ Int32) := some (.inl (t0_51, (x3_51 + 1)))
def N_X12_wantsOf_50 (f0 : Nat → Int32) (g0 : Nat → Int64) (a0 : Nat → Nat → Int32) (x1_17 : Int32) (x2_50 : Int32) (x3_50 : Int32) : Option ((Int32 × Int32) ⊕ Int32) := N_X12_wantsOf_51 f0 g0 a0 x1_17 x3_50 x2_50
def B_X12_wantsOf_17 (f0 : Nat → Int32) (g0 : Nat → Int64) (a0 : Nat → Nat → Int32) (x1_17 : Int32) (x2_17 : Int32) (x3_17 : Int32) : Option ((Int32 × Int32) ⊕ Int32) := if ((1 : Int32) <<< ((f0 1) &&& 31)) ≤ x3_17 then Option.map Sum.inr (some x2_17) else if (F_X12_isIn x3_17 x1_17) = 0 then N_X12_wantsOf_50 f0 g0 a0 x1_17 x2_17 x3_17 else (F_X12_isWritten f0 g0 a0 x1_17 x3_17).bind fun r4 => if r4 = 0 then N_X12_wantsOf_50 f0 g0 a0 x1_17 x2_17 x3_17 else N_X12_wantsOf_51 f0 g0 a0 x1_17 x3_17 (x2_17 &&& x3_17)
def N_X12_wantsOf_17 (f0 : Nat → Int32) (g0 : Nat → Int64) (a0 : Nat → Nat → Int32) (x1_17 : Int32) (x2_17 : Int32) (x3_17 : Int32) : Option Int32 := lpN (fun q17 : (Int32 × Int32) => B_X12_wantsOf_17 f0 g0 a0 x1_17 q17.1 q17.2) kFu (x2_17, x3_17)
def F_X12_wantsOf (f0 : Nat → Int32) (g0 : Nat → Int64) (a0 : Nat → Nat → Int32) (p1 : Int32) : Option Int32 := N_X12_wantsOf_17 f0 g0 a0 p1 ((((1 : Int32) <<< ((f0 1) &&& 31)) - (1 : Int32)) &&& (((1 : Int32) <<< (p1 &&& 31)) ^^^ (-1 : Int32))) 0
set_option maxHeartbeats 4000000 in
set_option maxRecDepth 100000 in
theorem c_X12_wantsOf (l : Launch) (hz : Nat) (D : va_G) (ad : Nat → Nat) (ck : Nat → ClassId) (f0 : Nat → Int32) (g0 : Nat → Int64) (a0 : Nat → Nat → Int32) (p1 : Int32) (out : Int32) (hF : F_X12_wantsOf f0 g0 a0 p1 = some out) : Met l yX12_wantsOf wsX12_wantsOf ({ frames := 4, cells := 0, slots := 0, locals := 92 }) (kR hz D vwCl (tM ck) (wM ad ck f0 g0 a0) [.ref (ad 0), .int p1]) (kZi out) 0 0 (fun _ => False) := by
  refine Met.ofW (cc := cX12_wantsOf) (maxL := 4) (ret := (some .int)) (by decide) rfl ?_
  intro p e s m args below meth c s₁ B hml hv
  obtain ⟨rfl, hP, hE⟩ := hv
  have hx := B.exec
  have hb := B.bytes
  have hr := B.returns
  have hts := atoms_spec (ws := wsX12_wantsOf) B.pre
  have hown : s.vm.findClass RX12 = some m.cls := findClass_of_methodNamed B.named
  have hlocks := B.notSynchronized
  have hK := hE.1
  have hiX12 : ∀ w ∈ u_ws RX12 TX12 31, w ∈ wsX12_wantsOf := by decide +kernel
  have hf83 := hts (.fieldLink RX12 83 "SpeltByFriendsModel" "people" "I") (by decide +kernel)
  have hN_17 : ∀ (x1_17 : Int32) (n17 : Nat) (x2_17 : Int32) (x3_17 : Int32) (ls : Array Slot), lv_has ls 4 [(0, .ref (ad 0)), (1, .int x1_17), (2, .int x2_17), (3, .int x3_17)] → ∀ r : Int32, lpN (fun q17 : (Int32 × Int32) => B_X12_wantsOf_17 f0 g0 a0 x1_17 q17.1 q17.2) n17 (x2_17, x3_17) = some r → (fun r => r = out) r → W p l e (headSpec wsX12_wantsOf ({ frames := 4, cells := 0, slots := 0, locals := 92 })).room s m [.ref (ad 0), .int p1].toArray below meth c s.heap [] 0 0 (MQ below (kZi out) [.ref (ad 0), .int p1].toArray s 0 0 (fun _ => False)) (F0 m 17 ls []) := by
    intro x1_17 n17
    induction n17 with
    | zero => intro x2_17 x3_17 ls hl r hF hp; exact (lp_z hF).elim
    | succ n17 ih17 =>
      intro x2_17 x3_17 ls hl r hF hp
      obtain ⟨rs, hF, hp⟩ := lpN_K (P := (fun r => r = out)) hF hp
      have hN_51 : ∀ (x3_51 : Int32) (t0_51 : Int32) (ls : Array Slot), lv_has ls 4 [(0, .ref (ad 0)), (1, .int x1_17), (3, .int x3_51)] → ∀ r : ((Int32 × Int32) ⊕ Int32), N_X12_wantsOf_51 f0 g0 a0 x1_17 x3_51 t0_51 = some r → (lpK (fun q17 : (Int32 × Int32) => B_X12_wantsOf_17 f0 g0 a0 x1_17 q17.1 q17.2) n17 (fun r => r = out)) r → W p l e (headSpec wsX12_wantsOf ({ frames := 4, cells := 0, slots := 0, locals := 92 })).room s m [.ref (ad 0), .int p1].toArray below meth c s.heap [] 0 0 (MQ below (kZi out) [.ref (ad 0), .int p1].toArray s 0 0 (fun _ => False)) (F0 m 51 ls [.int t0_51]) := by
        intro x3_51 t0_51 ls hl r hF hp
        unfold N_X12_wantsOf_51 at hF
        refine lv_istore_n (lv' := [(2, .int t0_51), (0, .ref (ad 0)), (1, .int x1_17), (3, .int x3_51)]) hx hb dX12_wantsOf_51 rfl hl (by decide) rfl (fun ls hl => ?_)
        refine lv_iinc (v := (x3_51 + 1)) (lv' := [(3, .int (x3_51 + 1)), (2, .int t0_51), (0, .ref (ad 0)), (1, .int x1_17)]) hx hb dX12_wantsOf_52 hl (k := 3) rfl rfl (by decide) rfl (fun ls hl => ?_)
        refine lv_goto (tgt := 17) hx hb dX12_wantsOf_55 (by decide) ?_
        have hF := Option.some.inj hF
        subst hF
        obtain ⟨r, hF, hp⟩ := hp
        exact ih17 t0_51 (x3_51 + 1) ls (lv_sub hl [2, 3, 1, 0] rfl) r hF hp
      have hN_50 : ∀ (x2_50 : Int32) (x3_50 : Int32) (ls : Array Slot), lv_has ls 4 [(0, .ref (ad 0)), (1, .int x1_17), (2, .int x2_50), (3, .int x3_50)] → ∀ r : ((Int32 × Int32) ⊕ Int32), N_X12_wantsOf_50 f0 g0 a0 x1_17 x2_50 x3_50 = some r → (lpK (fun q17 : (Int32 × Int32) => B_X12_wantsOf_17 f0 g0 a0 x1_17 q17.1 q17.2) n17 (fun r => r = out)) r → W p l e (headSpec wsX12_wantsOf ({ frames := 4, cells := 0, slots := 0, locals := 92 })).room s m [.ref (ad 0), .int p1].toArray below meth c s.heap [] 0 0 (MQ below (kZi out) [.ref (ad 0), .int p1].toArray s 0 0 (fun _ => False)) (F0 m 50 ls []) := by
        intro x2_50 x3_50 ls hl r hF hp
        unfold N_X12_wantsOf_50 at hF
        refine lv_iload_n hx hb dX12_wantsOf_50 rfl (lv_at hl 2 rfl) ?_
        exact hN_51 x3_50 x2_50 ls (lv_sub hl [0, 1, 3] rfl) _ hF hp
      unfold B_X12_wantsOf_17 at hF
      refine lv_iload_n hx hb dX12_wantsOf_17 rfl (lv_at hl 3 rfl) ?_
      refine lv_iconst (v := 1) hx hb dX12_wantsOf_18 (by decide) ?_
      refine lv_aload_n hx hb dX12_wantsOf_19 rfl (lv_at hl 0 rfl) ?_
      refine va_get (D := D) (ci := 12) (v := .int (f0 1)) (C := RX12) (T := TX12) (N := 31) hx hb hts hiX12 hown hK hP 0 rfl rfl 1 (by decide) hf83 (fun _ h9 => h9) rfl dX12_wantsOf_20 ?_
      refine lv_ishl hx hb dX12_wantsOf_23 ?_
      refine lv_icmp_ge (tgt := 58) hx hb dX12_wantsOf_24 (by decide) (fun hc1 => ?_) (fun hc1 => ?_)
      · have hF := it_p hc1 hF
        obtain ⟨r, hF1, hr0⟩ := mp_s hF
        clear hF
        subst hr0
        have hF := hF1
        clear hF1
        have hp : (fun r => r = out) r := hp
        refine lv_iload_n hx hb dX12_wantsOf_58 rfl (lv_at hl 2 rfl) ?_
        exact W.iret hx hb hr (fun t ht hW => ⟨_, rfl, (Option.some.inj hF).trans hp, ht⟩) (fun q hq => by cases hq) dX12_wantsOf_59
      · have hF := it_n hc1 hF
        refine lv_iload_n hx hb dX12_wantsOf_27 rfl (lv_at hl 3 rfl) ?_
        refine lv_iload_n hx hb dX12_wantsOf_28 rfl (lv_at hl 1 rfl) ?_
        refine kS_b (va_runS (As := [.int x3_17, .int x1_17]) (rest := []) ⟨hx, hb, hml, hown, hts⟩ (c_X12_isIn l hz D (tM ck) x3_17 x1_17) (va_cwS 2 hts gX12_wantsOf_X12_isIn rfl rfl rfl pX12_isIn ⟨Nat.le_of_ble_eq_true rfl, Nat.le_of_ble_eq_true rfl⟩) (kR.preS kP_nil hE) rfl rfl hl.1 rfl (lv_room (Nat.le_of_ble_eq_true rfl)) dX12_wantsOf_29 ⟨Nat.le_refl _, Nat.le_refl _⟩) (fun hz2 => ?_)
        refine lv_if_eq (tgt := 50) hx hb dX12_wantsOf_32 (by decide) (fun hc3 => ?_) (fun hc3 => ?_)
        · have hF := it_p hc3 hF
          exact hN_50 x2_17 x3_17 ls (lv_sub hl [0, 1, 2, 3] rfl) _ hF hp
        · have hF := it_n hc3 hF
          refine lv_aload_n hx hb dX12_wantsOf_35 rfl (lv_at hl 0 rfl) ?_
          refine lv_iload_n hx hb dX12_wantsOf_36 rfl (lv_at hl 1 rfl) ?_
          refine lv_iload_n hx hb dX12_wantsOf_37 rfl (lv_at hl 3 rfl) ?_
          obtain ⟨r4, he4, hF⟩ := bd_s hF
          refine kS_b (va_runV (As := [.int x1_17, .int x3_17]) (rest := []) ⟨hx, hb, hml, hown, hts⟩ (c_X12_isWritten l hz D ad ck f0 g0 a0 x1_17 x3_17 r4 he4) (cwV 2 hts gX12_wantsOf_X12_isWritten rfl rfl rfl ⟨rfl, pX12_isWritten⟩ ⟨Nat.le_of_ble_eq_true rfl, Nat.le_of_ble_eq_true rfl⟩) (kR.preV (va_recv hK hP (ci := 12) (q0 := 0) rfl rfl) hP hE) rfl rfl hl.1 rfl (lv_room (Nat.le_of_ble_eq_true rfl)) dX12_wantsOf_38 ⟨Nat.le_refl _, Nat.le_refl _⟩) (fun hz5 => ?_)
          refine lv_if_eq (tgt := 50) hx hb dX12_wantsOf_41 (by decide) (fun hc6 => ?_) (fun hc6 => ?_)
          · have hF := it_p hc6 hF
            exact hN_50 x2_17 x3_17 ls (lv_sub hl [0, 1, 2, 3] rfl) _ hF hp
          · have hF := it_n hc6 hF
            refine lv_iload_n hx hb dX12_wantsOf_44 rfl (lv_at hl 2 rfl) ?_
            refine lv_iload_n hx hb dX12_wantsOf_45 rfl (lv_at hl 3 rfl) ?_
            refine lv_iand hx hb dX12_wantsOf_46 ?_
            refine lv_goto (tgt := 51) hx hb dX12_wantsOf_47 (by decide) ?_
            exact hN_51 x3_17 (x2_17 &&& x3_17) ls (lv_sub hl [0, 1, 3] rfl) _ hF hp
  have hl := lv_entry ([.ref (ad 0), .int p1]) (n := 4) (Nat.le_of_ble_eq_true rfl)
  rw [lg_entry_eq]
  generalize (lg_sl ([.ref (ad 0), .int p1]) ++ List.replicate (4 - (lg_sl ([.ref (ad 0), .int p1])).length) Slot.unset).toArray = ls at hl ⊢
  have hl : lv_has ls 4 [(0, .ref (ad 0)), (1, .int p1)] := hl
  obtain ⟨r, hF, hp⟩ : ∃ r, F_X12_wantsOf f0 g0 a0 p1 = some r ∧ r = out := ⟨out, hF, rfl⟩
  unfold F_X12_wantsOf at hF
  refine lv_iconst (v := 1) hx hb dX12_wantsOf_0 (by decide) ?_
  refine lv_aload_n hx hb dX12_wantsOf_1 rfl (lv_at hl 0 rfl) ?_
  refine va_get (D := D) (ci := 12) (v := .int (f0 1)) (C := RX12) (T := TX12) (N := 31) hx hb hts hiX12 hown hK hP 0 rfl rfl 1 (by decide) hf83 (fun _ h9 => h9) rfl dX12_wantsOf_2 ?_
  refine lv_ishl hx hb dX12_wantsOf_5 ?_
  refine lv_iconst (v := 1) hx hb dX12_wantsOf_6 (by decide) ?_
  refine lv_isub hx hb dX12_wantsOf_7 ?_
  refine lv_iconst (v := 1) hx hb dX12_wantsOf_8 (by decide) ?_
  refine lv_iload_n hx hb dX12_wantsOf_9 rfl (lv_at hl 1 rfl) ?_
  refine lv_ishl hx hb dX12_wantsOf_10 ?_
  refine lv_iconst (v := (-1)) hx hb dX12_wantsOf_11 (by decide) ?_
  refine lv_ixor hx hb dX12_wantsOf_12 ?_
  refine lv_iand hx hb dX12_wantsOf_13 ?_
  refine lv_istore_n (lv' := [(2, .int ((((1 : Int32) <<< ((f0 1) &&& 31)) - (1 : Int32)) &&& (((1 : Int32) <<< (p1 &&& 31)) ^^^ (-1 : Int32)))), (0, .ref (ad 0)), (1, .int p1)]) hx hb dX12_wantsOf_14 rfl hl (by decide) rfl (fun ls hl => ?_)
  refine lv_iconst (v := 0) hx hb dX12_wantsOf_15 (by decide) ?_
  refine lv_istore_n (lv' := [(3, .int 0), (2, .int ((((1 : Int32) <<< ((f0 1) &&& 31)) - (1 : Int32)) &&& (((1 : Int32) <<< (p1 &&& 31)) ^^^ (-1 : Int32)))), (0, .ref (ad 0)), (1, .int p1)]) hx hb dX12_wantsOf_16 rfl hl (by decide) rfl (fun ls hl => ?_)
  exact hN_17 p1 kFu ((((1 : Int32) <<< ((f0 1) &&& 31)) - (1 : Int32)) &&& (((1 : Int32) <<< (p1 &&& 31)) ^^^ (-1 : Int32))) 0 ls (lv_sub hl [2, 3, 1, 0] rfl) _ hF hp

def F_X12_oneNow (f0 : Nat → Int32) (g0 : Nat → Int64) (a0 : Nat → Nat → Int32) (p1 : Int32) (p2 : Int32) : Option Int32 := if p2 = 0 then gd (inB p1 5) (some (a0 2 p1.toNatClampNeg)) else (if p2 = 1 then gd (inB ((((2 : Int32) * p1) + p2) - (1 : Int32)) 10) (some (a0 3 ((((2 : Int32) * p1) + p2) - (1 : Int32)).toNatClampNeg)) else (if p2 = 2 then gd (inB ((((2 : Int32) * p1) + p2) - (1 : Int32)) 10) (some (a0 3 ((((2 : Int32) * p1) + p2) - (1 : Int32)).toNatClampNeg)) else (if p2 = 3 then gd (inB p1 5) (some (a0 4 p1.toNatClampNeg)) else (if p2 = 4 then gd (inB p1 5) (some (a0 5 p1.toNatClampNeg)) else (if p2 = 5 then (F_X12_isWrittenNow f0 g0 a0 p1).bind fun r12 => if r12 = 0 then some 0 else some 1 else (if p2 = 6 then (F_X12_companyOf f0 g0 a0 p1).bind fun r16 => some r16 else (if p2 = 7 then (F_X12_lettersOf f0 g0 a0 p1).bind fun r18 => some r18 else ((F_X12_wantsOf f0 g0 a0 p1).bind fun r19 => some r19))))))))
set_option maxHeartbeats 4000000 in
set_option maxRecDepth 100000 in
theorem c_X12_oneNow (l : Launch) (hz : Nat) (D : va_G) (ad : Nat → Nat) (ck : Nat → ClassId) (f0 : Nat → Int32) (g0 : Nat → Int64) (a0 : Nat → Nat → Int32) (p1 : Int32) (p2 : Int32) (out : Int32) (hF : F_X12_oneNow f0 g0 a0 p1 p2 = some out) : Met l yX12_oneNow wsX12_oneNow ({ frames := 5, cells := 0, slots := 0, locals := 115 }) (kR hz D vwCl (tM ck) (wM ad ck f0 g0 a0) [.ref (ad 0), .int p1, .int p2]) (kZi out) 0 0 (fun _ => False) := by
  refine Met.ofW (cc := cX12_oneNow) (maxL := 3) (ret := (some .int)) (by decide) rfl ?_
  intro p e s m args below meth c s₁ B hml hv
  obtain ⟨rfl, hP, hE⟩ := hv
  have hx := B.exec
  have hb := B.bytes
  have hr := B.returns
  have hts := atoms_spec (ws := wsX12_oneNow) B.pre
  have hown : s.vm.findClass RX12 = some m.cls := findClass_of_methodNamed B.named
  have hlocks := B.notSynchronized
  have hK := hE.1
  have hiX12 : ∀ w ∈ u_ws RX12 TX12 31, w ∈ wsX12_oneNow := by decide +kernel
  have hf7 := hts (.fieldLink RX12 7 "SpeltByFriendsModel" "kindOf" "[I") (by decide +kernel)
  have hf13 := hts (.fieldLink RX12 13 "SpeltByFriendsModel" "holderOf" "[I") (by decide +kernel)
  have hf16 := hts (.fieldLink RX12 16 "SpeltByFriendsModel" "roomOf" "[I") (by decide +kernel)
  have hf19 := hts (.fieldLink RX12 19 "SpeltByFriendsModel" "quarrelsOf" "[I") (by decide +kernel)
  have hl := lv_entry ([.ref (ad 0), .int p1, .int p2]) (n := 3) (Nat.le_of_ble_eq_true rfl)
  rw [lg_entry_eq]
  generalize (lg_sl ([.ref (ad 0), .int p1, .int p2]) ++ List.replicate (3 - (lg_sl ([.ref (ad 0), .int p1, .int p2])).length) Slot.unset).toArray = ls at hl ⊢
  have hl : lv_has ls 3 [(0, .ref (ad 0)), (1, .int p1), (2, .int p2)] := hl
  obtain ⟨r, hF, hp⟩ : ∃ r, F_X12_oneNow f0 g0 a0 p1 p2 = some r ∧ r = out := ⟨out, hF, rfl⟩
  unfold F_X12_oneNow at hF
  refine lv_iload_n hx hb dX12_oneNow_0 rfl (lv_at hl 2 rfl) ?_
  by_cases hc1 : p2 = 0
  · have hF := it_p hc1 hF
    refine lv_tableIn (tgt := 48) (off := 47) hx hb dX12_oneNow_1 (by rw [hc1]; decide) (by rw [hc1]; decide) (by rw [hc1]; rfl) (by decide) ?_
    refine lv_aload_n hx hb dX12_oneNow_48 rfl (lv_at hl 0 rfl) ?_
    refine va_get (D := D) (ci := 12) (v := .ref (ad 2)) (C := RX12) (T := TX12) (N := 31) hx hb hts hiX12 hown hK hP 0 rfl rfl 2 (by decide) hf7 (fun _ h9 => h9) rfl dX12_oneNow_49 ?_
    refine lv_iload_n hx hb dX12_oneNow_52 rfl (lv_at hl 1 rfl) ?_
    obtain ⟨hg2, hF⟩ := gd_s hF
    refine va_iald hx hb hK hP 1 0 rfl rfl (inB_in hg2) dX12_oneNow_53 ?_
    exact W.iret hx hb hr (fun t ht hW => ⟨_, rfl, (Option.some.inj hF).trans hp, ht⟩) (fun q hq => by cases hq) dX12_oneNow_54
  have hF := it_n hc1 hF
  by_cases hc3 : p2 = 1
  · have hF := it_p hc3 hF
    refine lv_tableIn (tgt := 55) (off := 54) hx hb dX12_oneNow_1 (by rw [hc3]; decide) (by rw [hc3]; decide) (by rw [hc3]; rfl) (by decide) ?_
    refine lv_aload_n hx hb dX12_oneNow_55 rfl (lv_at hl 0 rfl) ?_
    refine va_get (D := D) (ci := 12) (v := .ref (ad 3)) (C := RX12) (T := TX12) (N := 31) hx hb hts hiX12 hown hK hP 0 rfl rfl 3 (by decide) hf13 (fun _ h9 => h9) rfl dX12_oneNow_56 ?_
    refine lv_iconst (v := 2) hx hb dX12_oneNow_59 (by decide) ?_
    refine lv_iload_n hx hb dX12_oneNow_60 rfl (lv_at hl 1 rfl) ?_
    refine lv_imul hx hb dX12_oneNow_61 ?_
    refine lv_iload_n hx hb dX12_oneNow_62 rfl (lv_at hl 2 rfl) ?_
    refine lv_iadd hx hb dX12_oneNow_63 ?_
    refine lv_iconst (v := 1) hx hb dX12_oneNow_64 (by decide) ?_
    refine lv_isub hx hb dX12_oneNow_65 ?_
    obtain ⟨hg4, hF⟩ := gd_s hF
    refine va_iald hx hb hK hP 2 1 rfl rfl (inB_in hg4) dX12_oneNow_66 ?_
    exact W.iret hx hb hr (fun t ht hW => ⟨_, rfl, (Option.some.inj hF).trans hp, ht⟩) (fun q hq => by cases hq) dX12_oneNow_67
  have hF := it_n hc3 hF
  by_cases hc5 : p2 = 2
  · have hF := it_p hc5 hF
    refine lv_tableIn (tgt := 55) (off := 54) hx hb dX12_oneNow_1 (by rw [hc5]; decide) (by rw [hc5]; decide) (by rw [hc5]; rfl) (by decide) ?_
    refine lv_aload_n hx hb dX12_oneNow_55 rfl (lv_at hl 0 rfl) ?_
    refine va_get (D := D) (ci := 12) (v := .ref (ad 3)) (C := RX12) (T := TX12) (N := 31) hx hb hts hiX12 hown hK hP 0 rfl rfl 3 (by decide) hf13 (fun _ h9 => h9) rfl dX12_oneNow_56 ?_
    refine lv_iconst (v := 2) hx hb dX12_oneNow_59 (by decide) ?_
    refine lv_iload_n hx hb dX12_oneNow_60 rfl (lv_at hl 1 rfl) ?_
    refine lv_imul hx hb dX12_oneNow_61 ?_
    refine lv_iload_n hx hb dX12_oneNow_62 rfl (lv_at hl 2 rfl) ?_
    refine lv_iadd hx hb dX12_oneNow_63 ?_
    refine lv_iconst (v := 1) hx hb dX12_oneNow_64 (by decide) ?_
    refine lv_isub hx hb dX12_oneNow_65 ?_
    obtain ⟨hg6, hF⟩ := gd_s hF
    refine va_iald hx hb hK hP 2 1 rfl rfl (inB_in hg6) dX12_oneNow_66 ?_
    exact W.iret hx hb hr (fun t ht hW => ⟨_, rfl, (Option.some.inj hF).trans hp, ht⟩) (fun q hq => by cases hq) dX12_oneNow_67
  have hF := it_n hc5 hF
  by_cases hc7 : p2 = 3
  · have hF := it_p hc7 hF
    refine lv_tableIn (tgt := 68) (off := 67) hx hb dX12_oneNow_1 (by rw [hc7]; decide) (by rw [hc7]; decide) (by rw [hc7]; rfl) (by decide) ?_
    refine lv_aload_n hx hb dX12_oneNow_68 rfl (lv_at hl 0 rfl) ?_
    refine va_get (D := D) (ci := 12) (v := .ref (ad 4)) (C := RX12) (T := TX12) (N := 31) hx hb hts hiX12 hown hK hP 0 rfl rfl 4 (by decide) hf16 (fun _ h9 => h9) rfl dX12_oneNow_69 ?_
    refine lv_iload_n hx hb dX12_oneNow_72 rfl (lv_at hl 1 rfl) ?_
    obtain ⟨hg8, hF⟩ := gd_s hF
    refine va_iald hx hb hK hP 3 2 rfl rfl (inB_in hg8) dX12_oneNow_73 ?_
    exact W.iret hx hb hr (fun t ht hW => ⟨_, rfl, (Option.some.inj hF).trans hp, ht⟩) (fun q hq => by cases hq) dX12_oneNow_74
  have hF := it_n hc7 hF
  by_cases hc9 : p2 = 4
  · have hF := it_p hc9 hF
    refine lv_tableIn (tgt := 75) (off := 74) hx hb dX12_oneNow_1 (by rw [hc9]; decide) (by rw [hc9]; decide) (by rw [hc9]; rfl) (by decide) ?_
    refine lv_aload_n hx hb dX12_oneNow_75 rfl (lv_at hl 0 rfl) ?_
    refine va_get (D := D) (ci := 12) (v := .ref (ad 5)) (C := RX12) (T := TX12) (N := 31) hx hb hts hiX12 hown hK hP 0 rfl rfl 5 (by decide) hf19 (fun _ h9 => h9) rfl dX12_oneNow_76 ?_
    refine lv_iload_n hx hb dX12_oneNow_79 rfl (lv_at hl 1 rfl) ?_
    obtain ⟨hg10, hF⟩ := gd_s hF
    refine va_iald hx hb hK hP 4 3 rfl rfl (inB_in hg10) dX12_oneNow_80 ?_
    exact W.iret hx hb hr (fun t ht hW => ⟨_, rfl, (Option.some.inj hF).trans hp, ht⟩) (fun q hq => by cases hq) dX12_oneNow_81
  have hF := it_n hc9 hF
  by_cases hc11 : p2 = 5
  · have hF := it_p hc11 hF
    refine lv_tableIn (tgt := 82) (off := 81) hx hb dX12_oneNow_1 (by rw [hc11]; decide) (by rw [hc11]; decide) (by rw [hc11]; rfl) (by decide) ?_
    refine lv_aload_n hx hb dX12_oneNow_82 rfl (lv_at hl 0 rfl) ?_
    refine lv_iload_n hx hb dX12_oneNow_83 rfl (lv_at hl 1 rfl) ?_
    obtain ⟨r12, he12, hF⟩ := bd_s hF
    refine kS_b (va_runV (As := [.int p1]) (rest := []) ⟨hx, hb, hml, hown, hts⟩ (c_X12_isWrittenNow l hz D ad ck f0 g0 a0 p1 r12 he12) (cwV 1 hts gX12_oneNow_X12_isWrittenNow rfl rfl rfl ⟨rfl, pX12_isWrittenNow⟩ ⟨Nat.le_of_ble_eq_true rfl, Nat.le_of_ble_eq_true rfl⟩) (kR.preV (va_recv hK hP (ci := 12) (q0 := 0) rfl rfl) hP hE) rfl rfl hl.1 rfl (lv_room (Nat.le_of_ble_eq_true rfl)) dX12_oneNow_84 ⟨Nat.le_refl _, Nat.le_refl _⟩) (fun hz13 => ?_)
    refine lv_if_eq (tgt := 94) hx hb dX12_oneNow_87 (by decide) (fun hc14 => ?_) (fun hc14 => ?_)
    · have hF := it_p hc14 hF
      refine lv_iconst (v := 0) hx hb dX12_oneNow_94 (by decide) ?_
      exact W.iret hx hb hr (fun t ht hW => ⟨_, rfl, (Option.some.inj hF).trans hp, ht⟩) (fun q hq => by cases hq) dX12_oneNow_95
    · have hF := it_n hc14 hF
      refine lv_iconst (v := 1) hx hb dX12_oneNow_90 (by decide) ?_
      refine lv_goto (tgt := 95) hx hb dX12_oneNow_91 (by decide) ?_
      exact W.iret hx hb hr (fun t ht hW => ⟨_, rfl, (Option.some.inj hF).trans hp, ht⟩) (fun q hq => by cases hq) dX12_oneNow_95
  have hF := it_n hc11 hF
  by_cases hc15 : p2 = 6
  · have hF := it_p hc15 hF
    refine lv_tableIn (tgt := 96) (off := 95) hx hb dX12_oneNow_1 (by rw [hc15]; decide) (by rw [hc15]; decide) (by rw [hc15]; rfl) (by decide) ?_
    refine lv_aload_n hx hb dX12_oneNow_96 rfl (lv_at hl 0 rfl) ?_
    refine lv_iload_n hx hb dX12_oneNow_97 rfl (lv_at hl 1 rfl) ?_
    obtain ⟨r16, he16, hF⟩ := bd_s hF
    refine kS_i (va_runV (As := [.int p1]) (rest := []) ⟨hx, hb, hml, hown, hts⟩ (c_X12_companyOf l hz D ad ck f0 g0 a0 p1 r16 he16) (cwV 1 hts gX12_oneNow_X12_companyOf rfl rfl rfl ⟨rfl, pX12_companyOf⟩ ⟨Nat.le_of_ble_eq_true rfl, Nat.le_of_ble_eq_true rfl⟩) (kR.preV (va_recv hK hP (ci := 12) (q0 := 0) rfl rfl) hP hE) rfl rfl hl.1 rfl (lv_room (Nat.le_of_ble_eq_true rfl)) dX12_oneNow_98 ⟨Nat.le_refl _, Nat.le_refl _⟩) ?_
    exact W.iret hx hb hr (fun t ht hW => ⟨_, rfl, (Option.some.inj hF).trans hp, ht⟩) (fun q hq => by cases hq) dX12_oneNow_101
  have hF := it_n hc15 hF
  by_cases hc17 : p2 = 7
  · have hF := it_p hc17 hF
    refine lv_tableIn (tgt := 102) (off := 101) hx hb dX12_oneNow_1 (by rw [hc17]; decide) (by rw [hc17]; decide) (by rw [hc17]; rfl) (by decide) ?_
    refine lv_aload_n hx hb dX12_oneNow_102 rfl (lv_at hl 0 rfl) ?_
    refine lv_iload_n hx hb dX12_oneNow_103 rfl (lv_at hl 1 rfl) ?_
    obtain ⟨r18, he18, hF⟩ := bd_s hF
    refine kS_i (va_runV (As := [.int p1]) (rest := []) ⟨hx, hb, hml, hown, hts⟩ (c_X12_lettersOf l hz D ad ck f0 g0 a0 p1 r18 he18) (cwV 1 hts gX12_oneNow_X12_lettersOf rfl rfl rfl ⟨rfl, pX12_lettersOf⟩ ⟨Nat.le_of_ble_eq_true rfl, Nat.le_of_ble_eq_true rfl⟩) (kR.preV (va_recv hK hP (ci := 12) (q0 := 0) rfl rfl) hP hE) rfl rfl hl.1 rfl (lv_room (Nat.le_of_ble_eq_true rfl)) dX12_oneNow_104 ⟨Nat.le_refl _, Nat.le_refl _⟩) ?_
    exact W.iret hx hb hr (fun t ht hW => ⟨_, rfl, (Option.some.inj hF).trans hp, ht⟩) (fun q hq => by cases hq) dX12_oneNow_107
  have hF := it_n hc17 hF
  refine lv_tableOut (tgt := 108) hx hb dX12_oneNow_1 (by have z0 := lv_neT (a := 0) hc1 (by decide); have z1 := lv_neT (a := 1) hc3 (by decide); have z2 := lv_neT (a := 2) hc5 (by decide); have z3 := lv_neT (a := 3) hc7 (by decide); have z4 := lv_neT (a := 4) hc9 (by decide); have z5 := lv_neT (a := 5) hc11 (by decide); have z6 := lv_neT (a := 6) hc15 (by decide); have z7 := lv_neT (a := 7) hc17 (by decide); omega) (by decide) ?_
  refine lv_aload_n hx hb dX12_oneNow_108 rfl (lv_at hl 0 rfl) ?_
  refine lv_iload_n hx hb dX12_oneNow_109 rfl (lv_at hl 1 rfl) ?_
  obtain ⟨r19, he19, hF⟩ := bd_s hF
  refine kS_i (va_runV (As := [.int p1]) (rest := []) ⟨hx, hb, hml, hown, hts⟩ (c_X12_wantsOf l hz D ad ck f0 g0 a0 p1 r19 he19) (cwV 1 hts gX12_oneNow_X12_wantsOf rfl rfl rfl ⟨rfl, pX12_wantsOf⟩ ⟨Nat.le_of_ble_eq_true rfl, Nat.le_of_ble_eq_true rfl⟩) (kR.preV (va_recv hK hP (ci := 12) (q0 := 0) rfl rfl) hP hE) rfl rfl hl.1 rfl (lv_room (Nat.le_of_ble_eq_true rfl)) dX12_oneNow_110 ⟨Nat.le_refl _, Nat.le_refl _⟩) ?_
  exact W.iret hx hb hr (fun t ht hW => ⟨_, rfl, (Option.some.inj hF).trans hp, ht⟩) (fun q hq => by cases hq) dX12_oneNow_113

def F_X12_about (f0 : Nat → Int32) (g0 : Nat → Int64) (a0 : Nat → Nat → Int32) (p1 : Int32) (p2 : Int32) : Option Int32 := if (F_X12_isOne f0 g0 a0 p1) = 0 then some (-101) else if (F_X12_within p2 0 8) = 0 then some (-102) else (F_X12_oneNow f0 g0 a0 p1 p2).bind fun r5 => some r5
set_option maxHeartbeats 4000000 in
set_option maxRecDepth 100000 in
theorem c_X12_about (l : Launch) (hz : Nat) (D : va_G) (ad : Nat → Nat) (ck : Nat → ClassId) (f0 : Nat → Int32) (g0 : Nat → Int64) (a0 : Nat → Nat → Int32) (p1 : Int32) (p2 : Int32) (out : Int32) (hF : F_X12_about f0 g0 a0 p1 p2 = some out) : Met l yX12_about wsX12_about ({ frames := 6, cells := 0, slots := 0, locals := 137 }) (kR hz D vwCl (tM ck) (wM ad ck f0 g0 a0) [.ref (ad 0), .int p1, .int p2]) (kZi out) 0 0 (fun _ => False) := by
  refine Met.ofW (cc := cX12_about) (maxL := 3) (ret := (some .int)) (by decide) rfl ?_
  intro p e s m args below meth c s₁ B hml hv
  obtain ⟨rfl, hP, hE⟩ := hv
  have hx := B.exec
  have hb := B.bytes
  have hr := B.returns
  have hts := atoms_spec (ws := wsX12_about) B.pre
  have hown : s.vm.findClass RX12 = some m.cls := findClass_of_methodNamed B.named
  have hlocks := B.notSynchronized
  have hK := hE.1
  have hl := lv_entry ([.ref (ad 0), .int p1, .int p2]) (n := 3) (Nat.le_of_ble_eq_true rfl)
  rw [lg_entry_eq]
  generalize (lg_sl ([.ref (ad 0), .int p1, .int p2]) ++ List.replicate (3 - (lg_sl ([.ref (ad 0), .int p1, .int p2])).length) Slot.unset).toArray = ls at hl ⊢
  have hl : lv_has ls 3 [(0, .ref (ad 0)), (1, .int p1), (2, .int p2)] := hl
  obtain ⟨r, hF, hp⟩ : ∃ r, F_X12_about f0 g0 a0 p1 p2 = some r ∧ r = out := ⟨out, hF, rfl⟩
  unfold F_X12_about at hF
  refine lv_aload_n hx hb dX12_about_0 rfl (lv_at hl 0 rfl) ?_
  refine lv_iload_n hx hb dX12_about_1 rfl (lv_at hl 1 rfl) ?_
  refine kS_b (va_runV (As := [.int p1]) (rest := []) ⟨hx, hb, hml, hown, hts⟩ (c_X12_isOne l hz D ad ck f0 g0 a0 p1) (cwV 1 hts gX12_about_X12_isOne rfl rfl rfl ⟨rfl, pX12_isOne⟩ ⟨Nat.le_of_ble_eq_true rfl, Nat.le_of_ble_eq_true rfl⟩) (kR.preV (va_recv hK hP (ci := 12) (q0 := 0) rfl rfl) hP hE) rfl rfl hl.1 rfl (lv_room (Nat.le_of_ble_eq_true rfl)) dX12_about_2 ⟨Nat.le_refl _, Nat.le_refl _⟩) (fun hz1 => ?_)
  refine lv_if_ne (tgt := 13) hx hb dX12_about_5 (by decide) (fun hc2 => ?_) (fun hc2 => ?_)
  · have hF := it_n hc2 hF
    refine lv_iload_n hx hb dX12_about_13 rfl (lv_at hl 2 rfl) ?_
    refine lv_iconst (v := 0) hx hb dX12_about_14 (by decide) ?_
    refine lv_bipush (v := 8) hx hb dX12_about_15 (by decide) ?_
    refine kS_b (va_runS (As := [.int p2, .int 0, .int 8]) (rest := []) ⟨hx, hb, hml, hown, hts⟩ (c_X12_within l hz D (tM ck) p2 0 8) (va_cwS 3 hts gX12_about_X12_within rfl rfl rfl pX12_within ⟨Nat.le_of_ble_eq_true rfl, Nat.le_of_ble_eq_true rfl⟩) (kR.preS kP_nil hE) rfl rfl hl.1 rfl (lv_room (Nat.le_of_ble_eq_true rfl)) dX12_about_17 ⟨Nat.le_refl _, Nat.le_refl _⟩) (fun hz3 => ?_)
    refine lv_if_eq (tgt := 32) hx hb dX12_about_20 (by decide) (fun hc4 => ?_) (fun hc4 => ?_)
    · have hF := it_p hc4 hF
      refine lv_bipush (v := (-102)) hx hb dX12_about_32 (by decide) ?_
      exact W.iret hx hb hr (fun t ht hW => ⟨_, rfl, (Option.some.inj hF).trans hp, ht⟩) (fun q hq => by cases hq) dX12_about_34
    · have hF := it_n hc4 hF
      refine lv_aload_n hx hb dX12_about_23 rfl (lv_at hl 0 rfl) ?_
      refine lv_iload_n hx hb dX12_about_24 rfl (lv_at hl 1 rfl) ?_
      refine lv_iload_n hx hb dX12_about_25 rfl (lv_at hl 2 rfl) ?_
      obtain ⟨r5, he5, hF⟩ := bd_s hF
      refine kS_i (va_runV (As := [.int p1, .int p2]) (rest := []) ⟨hx, hb, hml, hown, hts⟩ (c_X12_oneNow l hz D ad ck f0 g0 a0 p1 p2 r5 he5) (cwV 2 hts gX12_about_X12_oneNow rfl rfl rfl ⟨rfl, pX12_oneNow⟩ ⟨Nat.le_of_ble_eq_true rfl, Nat.le_of_ble_eq_true rfl⟩) (kR.preV (va_recv hK hP (ci := 12) (q0 := 0) rfl rfl) hP hE) rfl rfl hl.1 rfl (lv_room (Nat.le_of_ble_eq_true rfl)) dX12_about_26 ⟨Nat.le_refl _, Nat.le_refl _⟩) ?_
      refine lv_goto (tgt := 34) hx hb dX12_about_29 (by decide) ?_
      exact W.iret hx hb hr (fun t ht hW => ⟨_, rfl, (Option.some.inj hF).trans hp, ht⟩) (fun q hq => by cases hq) dX12_about_34
  · have hF := it_p hc2 hF
    refine lv_bipush (v := (-101)) hx hb dX12_about_8 (by decide) ?_
    refine lv_goto (tgt := 34) hx hb dX12_about_10 (by decide) ?_
    exact W.iret hx hb hr (fun t ht hW => ⟨_, rfl, (Option.some.inj hF).trans hp, ht⟩) (fun q hq => by cases hq) dX12_about_34

def N_X12_as_49 (f0 : Nat → Int32) (g0 : Nat → Int64) (a0 : Nat → Nat → Int32) (x1_49 : Int32) : Option Int32 := some x1_49
def F_X12_as (f0 : Nat → Int32) (g0 : Nat → Int64) (a0 : Nat → Nat → Int32) (p1 : Int32) (p2 : Int32) : Option Int32 := if (F_X12_isOne f0 g0 a0 p1) = 0 then some (-101) else if (F_X12_within p2 0 4) = 0 then some (-102) else gd (inB p1 5) (if p2 = 0 then N_X12_as_49 f0 g0 a0 p1 else if (a0 2 p1.toNatClampNeg) = p2 then N_X12_as_49 f0 g0 a0 p1 else if p2 = 2 then if (a0 2 p1.toNatClampNeg) = 4 then N_X12_as_49 f0 g0 a0 p1 else some (-1) else some (-1))
set_option maxHeartbeats 4000000 in
set_option maxRecDepth 100000 in
theorem c_X12_as (l : Launch) (hz : Nat) (D : va_G) (ad : Nat → Nat) (ck : Nat → ClassId) (f0 : Nat → Int32) (g0 : Nat → Int64) (a0 : Nat → Nat → Int32) (p1 : Int32) (p2 : Int32) (out : Int32) (hF : F_X12_as f0 g0 a0 p1 p2 = some out) : Met l yX12_as wsX12_as ({ frames := 2, cells := 0, slots := 0, locals := 43 }) (kR hz D vwCl (tM ck) (wM ad ck f0 g0 a0) [.ref (ad 0), .int p1, .int p2]) (kZi out) 0 0 (fun _ => False) := by
  refine Met.ofW (cc := cX12_as) (maxL := 4) (ret := (some .int)) (by decide) rfl ?_
  intro p e s m args below meth c s₁ B hml hv
  obtain ⟨rfl, hP, hE⟩ := hv
  have hx := B.exec
  have hb := B.bytes
  have hr := B.returns
  have hts := atoms_spec (ws := wsX12_as) B.pre
  have hown : s.vm.findClass RX12 = some m.cls := findClass_of_methodNamed B.named
  have hlocks := B.notSynchronized
  have hK := hE.1
  have hiX12 : ∀ w ∈ u_ws RX12 TX12 31, w ∈ wsX12_as := by decide +kernel
  have hf7 := hts (.fieldLink RX12 7 "SpeltByFriendsModel" "kindOf" "[I") (by decide +kernel)
  have hN_49 : ∀ (x1_49 : Int32) (ls : Array Slot), lv_has ls 4 [(1, .int x1_49)] → ∀ r : Int32, N_X12_as_49 f0 g0 a0 x1_49 = some r → (fun r => r = out) r → W p l e (headSpec wsX12_as ({ frames := 2, cells := 0, slots := 0, locals := 43 })).room s m [.ref (ad 0), .int p1, .int p2].toArray below meth c s.heap [] 0 0 (MQ below (kZi out) [.ref (ad 0), .int p1, .int p2].toArray s 0 0 (fun _ => False)) (F0 m 49 ls []) := by
    intro x1_49 ls hl r hF hp
    unfold N_X12_as_49 at hF
    refine lv_iload_n hx hb dX12_as_49 rfl (lv_at hl 0 rfl) ?_
    refine lv_goto (tgt := 54) hx hb dX12_as_50 (by decide) ?_
    exact W.iret hx hb hr (fun t ht hW => ⟨_, rfl, (Option.some.inj hF).trans hp, ht⟩) (fun q hq => by cases hq) dX12_as_54
  have hl := lv_entry ([.ref (ad 0), .int p1, .int p2]) (n := 4) (Nat.le_of_ble_eq_true rfl)
  rw [lg_entry_eq]
  generalize (lg_sl ([.ref (ad 0), .int p1, .int p2]) ++ List.replicate (4 - (lg_sl ([.ref (ad 0), .int p1, .int p2])).length) Slot.unset).toArray = ls at hl ⊢
  have hl : lv_has ls 4 [(0, .ref (ad 0)), (1, .int p1), (2, .int p2)] := hl
  obtain ⟨r, hF, hp⟩ : ∃ r, F_X12_as f0 g0 a0 p1 p2 = some r ∧ r = out := ⟨out, hF, rfl⟩
  unfold F_X12_as at hF
  refine lv_aload_n hx hb dX12_as_0 rfl (lv_at hl 0 rfl) ?_
  refine lv_iload_n hx hb dX12_as_1 rfl (lv_at hl 1 rfl) ?_
  refine kS_b (va_runV (As := [.int p1]) (rest := []) ⟨hx, hb, hml, hown, hts⟩ (c_X12_isOne l hz D ad ck f0 g0 a0 p1) (cwV 1 hts gX12_as_X12_isOne rfl rfl rfl ⟨rfl, pX12_isOne⟩ ⟨Nat.le_of_ble_eq_true rfl, Nat.le_of_ble_eq_true rfl⟩) (kR.preV (va_recv hK hP (ci := 12) (q0 := 0) rfl rfl) hP hE) rfl rfl hl.1 rfl (lv_room (Nat.le_of_ble_eq_true rfl)) dX12_as_2 ⟨Nat.le_refl _, Nat.le_refl _⟩) (fun hz1 => ?_)
  refine lv_if_ne (tgt := 11) hx hb dX12_as_5 (by decide) (fun hc2 => ?_) (fun hc2 => ?_)
  · have hF := it_n hc2 hF
    refine lv_iload_n hx hb dX12_as_11 rfl (lv_at hl 2 rfl) ?_
    refine lv_iconst (v := 0) hx hb dX12_as_12 (by decide) ?_
    refine lv_iconst (v := 4) hx hb dX12_as_13 (by decide) ?_
    refine kS_b (va_runS (As := [.int p2, .int 0, .int 4]) (rest := []) ⟨hx, hb, hml, hown, hts⟩ (c_X12_within l hz D (tM ck) p2 0 4) (va_cwS 3 hts gX12_as_X12_within rfl rfl rfl pX12_within ⟨Nat.le_of_ble_eq_true rfl, Nat.le_of_ble_eq_true rfl⟩) (kR.preS kP_nil hE) rfl rfl hl.1 rfl (lv_room (Nat.le_of_ble_eq_true rfl)) dX12_as_14 ⟨Nat.le_refl _, Nat.le_refl _⟩) (fun hz3 => ?_)
    refine lv_if_ne (tgt := 23) hx hb dX12_as_17 (by decide) (fun hc4 => ?_) (fun hc4 => ?_)
    · have hF := it_n hc4 hF
      refine lv_aload_n hx hb dX12_as_23 rfl (lv_at hl 0 rfl) ?_
      refine va_get (D := D) (ci := 12) (v := .ref (ad 2)) (C := RX12) (T := TX12) (N := 31) hx hb hts hiX12 hown hK hP 0 rfl rfl 2 (by decide) hf7 (fun _ h9 => h9) rfl dX12_as_24 ?_
      refine lv_iload_n hx hb dX12_as_27 rfl (lv_at hl 1 rfl) ?_
      obtain ⟨hg5, hF⟩ := gd_s hF
      refine va_iald hx hb hK hP 1 0 rfl rfl (inB_in hg5) dX12_as_28 ?_
      refine lv_istore_n (lv' := [(3, .int (a0 2 p1.toNatClampNeg)), (0, .ref (ad 0)), (1, .int p1), (2, .int p2)]) hx hb dX12_as_29 rfl hl (by decide) rfl (fun ls hl => ?_)
      refine lv_iload_n hx hb dX12_as_30 rfl (lv_at hl 3 rfl) ?_
      refine lv_if_eq (tgt := 49) hx hb dX12_as_31 (by decide) (fun hc6 => ?_) (fun hc6 => ?_)
      · have hF := it_p hc6 hF
        exact hN_49 p1 ls (lv_sub hl [2] rfl) _ hF hp
      · have hF := it_n hc6 hF
        refine lv_iload_n hx hb dX12_as_34 rfl (lv_at hl 0 rfl) ?_
        refine lv_iload_n hx hb dX12_as_35 rfl (lv_at hl 3 rfl) ?_
        refine lv_icmp_eq (tgt := 49) hx hb dX12_as_36 (by decide) (fun hc7 => ?_) (fun hc7 => ?_)
        · have hF := it_p hc7 hF
          exact hN_49 p1 ls (lv_sub hl [2] rfl) _ hF hp
        · have hF := it_n hc7 hF
          refine lv_iload_n hx hb dX12_as_39 rfl (lv_at hl 3 rfl) ?_
          refine lv_iconst (v := 2) hx hb dX12_as_40 (by decide) ?_
          refine lv_icmp_ne (tgt := 53) hx hb dX12_as_41 (by decide) (fun hc8 => ?_) (fun hc8 => ?_)
          · have hF := it_n hc8 hF
            refine lv_iconst (v := (-1)) hx hb dX12_as_53 (by decide) ?_
            exact W.iret hx hb hr (fun t ht hW => ⟨_, rfl, (Option.some.inj hF).trans hp, ht⟩) (fun q hq => by cases hq) dX12_as_54
          · have hF := it_p hc8 hF
            refine lv_iload_n hx hb dX12_as_44 rfl (lv_at hl 0 rfl) ?_
            refine lv_iconst (v := 4) hx hb dX12_as_45 (by decide) ?_
            refine lv_icmp_ne (tgt := 53) hx hb dX12_as_46 (by decide) (fun hc9 => ?_) (fun hc9 => ?_)
            · have hF := it_n hc9 hF
              refine lv_iconst (v := (-1)) hx hb dX12_as_53 (by decide) ?_
              exact W.iret hx hb hr (fun t ht hW => ⟨_, rfl, (Option.some.inj hF).trans hp, ht⟩) (fun q hq => by cases hq) dX12_as_54
            · have hF := it_p hc9 hF
              exact hN_49 p1 ls (lv_sub hl [2] rfl) _ hF hp
    · have hF := it_p hc4 hF
      refine lv_bipush (v := (-102)) hx hb dX12_as_20 (by decide) ?_
      exact W.iret hx hb hr (fun t ht hW => ⟨_, rfl, (Option.some.inj hF).trans hp, ht⟩) (fun q hq => by cases hq) dX12_as_22
  · have hF := it_p hc2 hF
    refine lv_bipush (v := (-101)) hx hb dX12_as_8 (by decide) ?_
    exact W.iret hx hb hr (fun t ht hW => ⟨_, rfl, (Option.some.inj hF).trans hp, ht⟩) (fun q hq => by cases hq) dX12_as_10
