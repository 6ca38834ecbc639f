/-! ===== the class, by program (tools/gen.py) ===== -/
def F_X9_has (f0 : Nat → Int32) (g0 : Nat → Int64) (a0 : Nat → Nat → Int32) (p1 : Int32) : Int32 := if p1 < 0 then 0 else if (f0 5) ≤ p1 then 0 else 1
set_option maxHeartbeats 4000000 in
set_option maxRecDepth 100000 in
theorem c_X9_has (l : Launch) (hz : Nat) (D : va_G) (ad : Nat → Nat) (ck : Nat → ClassId) (f0 : Nat → Int32) (g0 : Nat → Int64) (a0 : Nat → Nat → Int32) (p1 : Int32) : Met l yX9_has wsX9_has ({ frames := 0, cells := 0, slots := 0, locals := 0 }) (kR hz D vwCl (tX ck) (wX ad ck f0 g0 a0) [.ref (ad 2), .int p1]) (kZb (F_X9_has f0 g0 a0 p1)) 0 0 (fun _ => False) := by
  generalize hF : F_X9_has f0 g0 a0 p1 = out
  refine Met.ofW (cc := cX9_has) (maxL := 2) (ret := (some .boolean)) (by decide) rfl ?_
  intro p e s m args below meth c s₁ B hml hv
  obtain ⟨rfl, hP, hE⟩ := hv
  have hx := B.exec
  have hb := B.bytes
  have hr := B.returns
  have hts := atoms_spec (ws := wsX9_has) B.pre
  have hown : s.vm.findClass RX9 = some m.cls := findClass_of_methodNamed B.named
  have hlocks := B.notSynchronized
  have hK := hE.1
  have hiX9 : ∀ w ∈ u_ws RX9 TX9 4, w ∈ wsX9_has := by decide +kernel
  have hf56 := hts (.fieldLink RX9 56 "SpeltByFriends$Town" "size" "I") (by decide +kernel)
  have hl := lv_entry ([.ref (ad 2), .int p1]) (n := 2) (Nat.le_of_ble_eq_true rfl)
  rw [lg_entry_eq]
  generalize (lg_sl ([.ref (ad 2), .int p1]) ++ List.replicate (2 - (lg_sl ([.ref (ad 2), .int p1])).length) Slot.unset).toArray = ls at hl ⊢
  have hl : lv_has ls 2 [(0, .ref (ad 2)), (1, .int p1)] := hl
  obtain ⟨r, hF, hp⟩ : ∃ r, F_X9_has f0 g0 a0 p1 = r ∧ r = out := ⟨out, hF, rfl⟩
  unfold F_X9_has at hF
  refine lv_iload_n hx hb dX9_has_0 rfl (lv_at hl 1 rfl) ?_
  refine lv_if_lt (tgt := 16) hx hb dX9_has_1 (by decide) (fun hc1 => ?_) (fun hc1 => ?_)
  · have hF := it_p hc1 hF
    refine lv_iconst (v := 0) hx hb dX9_has_16 (by decide) ?_
    have hv := hF.trans hp
    exact W.zret hx hb hr rfl (fun t ht hW => ⟨_, rfl, ⟨hv, by rw [← hv]; exact rfl⟩, ht⟩) (fun q hq => by cases hq) dX9_has_17
  · have hF := it_n hc1 hF
    refine lv_iload_n hx hb dX9_has_4 rfl (lv_at hl 1 rfl) ?_
    refine lv_aload_n hx hb dX9_has_5 rfl (lv_at hl 0 rfl) ?_
    refine va_get (D := D) (ci := 9) (v := .int (f0 5)) (C := RX9) (T := TX9) (N := 4) hx hb hts hiX9 hown hK hP 2 rfl rfl 3 (by decide) hf56 (fun _ h9 => h9) rfl dX9_has_6 ?_
    refine lv_icmp_ge (tgt := 16) hx hb dX9_has_9 (by decide) (fun hc2 => ?_) (fun hc2 => ?_)
    · have hF := it_p hc2 hF
      refine lv_iconst (v := 0) hx hb dX9_has_16 (by decide) ?_
      have hv := hF.trans hp
      exact W.zret hx hb hr rfl (fun t ht hW => ⟨_, rfl, ⟨hv, by rw [← hv]; exact rfl⟩, ht⟩) (fun q hq => by cases hq) dX9_has_17
    · have hF := it_n hc2 hF
      refine lv_iconst (v := 1) hx hb dX9_has_12 (by decide) ?_
      refine lv_goto (tgt := 17) hx hb dX9_has_13 (by decide) ?_
      have hv := hF.trans hp
      exact W.zret hx hb hr rfl (fun t ht hW => ⟨_, rfl, ⟨hv, by rw [← hv]; exact rfl⟩, ht⟩) (fun q hq => by cases hq) dX9_has_17

def F_X9_isSetOfPeople (f0 : Nat → Int32) (g0 : Nat → Int64) (a0 : Nat → Nat → Int32) (p1 : Int32) : Int32 := if p1 < 0 then 0 else if ((1 : Int32) <<< ((f0 5) &&& 31)) ≤ p1 then 0 else 1
set_option maxHeartbeats 4000000 in
set_option maxRecDepth 100000 in
theorem c_X9_isSetOfPeople (l : Launch) (hz : Nat) (D : va_G) (ad : Nat → Nat) (ck : Nat → ClassId) (f0 : Nat → Int32) (g0 : Nat → Int64) (a0 : Nat → Nat → Int32) (p1 : Int32) : Met l yX9_isSetOfPeople wsX9_isSetOfPeople ({ frames := 0, cells := 0, slots := 0, locals := 0 }) (kR hz D vwCl (tX ck) (wX ad ck f0 g0 a0) [.ref (ad 2), .int p1]) (kZb (F_X9_isSetOfPeople f0 g0 a0 p1)) 0 0 (fun _ => False) := by
  generalize hF : F_X9_isSetOfPeople f0 g0 a0 p1 = out
  refine Met.ofW (cc := cX9_isSetOfPeople) (maxL := 2) (ret := (some .boolean)) (by decide) rfl ?_
  intro p e s m args below meth c s₁ B hml hv
  obtain ⟨rfl, hP, hE⟩ := hv
  have hx := B.exec
  have hb := B.bytes
  have hr := B.returns
  have hts := atoms_spec (ws := wsX9_isSetOfPeople) B.pre
  have hown : s.vm.findClass RX9 = some m.cls := findClass_of_methodNamed B.named
  have hlocks := B.notSynchronized
  have hK := hE.1
  have hiX9 : ∀ w ∈ u_ws RX9 TX9 4, w ∈ wsX9_isSetOfPeople := by decide +kernel
  have hf56 := hts (.fieldLink RX9 56 "SpeltByFriends$Town" "size" "I") (by decide +kernel)
  have hl := lv_entry ([.ref (ad 2), .int p1]) (n := 2) (Nat.le_of_ble_eq_true rfl)
  rw [lg_entry_eq]
  generalize (lg_sl ([.ref (ad 2), .int p1]) ++ List.replicate (2 - (lg_sl ([.ref (ad 2), .int p1])).length) Slot.unset).toArray = ls at hl ⊢
  have hl : lv_has ls 2 [(0, .ref (ad 2)), (1, .int p1)] := hl
  obtain ⟨r, hF, hp⟩ : ∃ r, F_X9_isSetOfPeople f0 g0 a0 p1 = r ∧ r = out := ⟨out, hF, rfl⟩
  unfold F_X9_isSetOfPeople at hF
  refine lv_iload_n hx hb dX9_isSetOfPeople_0 rfl (lv_at hl 1 rfl) ?_
  refine lv_if_lt (tgt := 18) hx hb dX9_isSetOfPeople_1 (by decide) (fun hc1 => ?_) (fun hc1 => ?_)
  · have hF := it_p hc1 hF
    refine lv_iconst (v := 0) hx hb dX9_isSetOfPeople_18 (by decide) ?_
    have hv := hF.trans hp
    exact W.zret hx hb hr rfl (fun t ht hW => ⟨_, rfl, ⟨hv, by rw [← hv]; exact rfl⟩, ht⟩) (fun q hq => by cases hq) dX9_isSetOfPeople_19
  · have hF := it_n hc1 hF
    refine lv_iload_n hx hb dX9_isSetOfPeople_4 rfl (lv_at hl 1 rfl) ?_
    refine lv_iconst (v := 1) hx hb dX9_isSetOfPeople_5 (by decide) ?_
    refine lv_aload_n hx hb dX9_isSetOfPeople_6 rfl (lv_at hl 0 rfl) ?_
    refine va_get (D := D) (ci := 9) (v := .int (f0 5)) (C := RX9) (T := TX9) (N := 4) hx hb hts hiX9 hown hK hP 2 rfl rfl 3 (by decide) hf56 (fun _ h9 => h9) rfl dX9_isSetOfPeople_7 ?_
    refine lv_ishl hx hb dX9_isSetOfPeople_10 ?_
    refine lv_icmp_ge (tgt := 18) hx hb dX9_isSetOfPeople_11 (by decide) (fun hc2 => ?_) (fun hc2 => ?_)
    · have hF := it_p hc2 hF
      refine lv_iconst (v := 0) hx hb dX9_isSetOfPeople_18 (by decide) ?_
      have hv := hF.trans hp
      exact W.zret hx hb hr rfl (fun t ht hW => ⟨_, rfl, ⟨hv, by rw [← hv]; exact rfl⟩, ht⟩) (fun q hq => by cases hq) dX9_isSetOfPeople_19
    · have hF := it_n hc2 hF
      refine lv_iconst (v := 1) hx hb dX9_isSetOfPeople_14 (by decide) ?_
      refine lv_goto (tgt := 19) hx hb dX9_isSetOfPeople_15 (by decide) ?_
      have hv := hF.trans hp
      exact W.zret hx hb hr rfl (fun t ht hW => ⟨_, rfl, ⟨hv, by rw [← hv]; exact rfl⟩, ht⟩) (fun q hq => by cases hq) dX9_isSetOfPeople_19

def F_X9_isCompanyOf (f0 : Nat → Int32) (g0 : Nat → Int64) (a0 : Nat → Nat → Int32) (p1 : Int32) (p2 : Int32) : Int32 := if (F_X9_isSetOfPeople f0 g0 a0 p2) = 0 then 0 else if ((p2 >>> (p1 &&& 31)) &&& (1 : Int32)) = 1 then 1 else 0
set_option maxHeartbeats 4000000 in
set_option maxRecDepth 100000 in
theorem c_X9_isCompanyOf (l : Launch) (hz : Nat) (D : va_G) (ad : Nat → Nat) (ck : Nat → ClassId) (f0 : Nat → Int32) (g0 : Nat → Int64) (a0 : Nat → Nat → Int32) (p1 : Int32) (p2 : Int32) : Met l yX9_isCompanyOf wsX9_isCompanyOf ({ frames := 1, cells := 0, slots := 0, locals := 21 }) (kR hz D vwCl (tX ck) (wX ad ck f0 g0 a0) [.ref (ad 2), .int p1, .int p2]) (kZb (F_X9_isCompanyOf f0 g0 a0 p1 p2)) 0 0 (fun _ => False) := by
  generalize hF : F_X9_isCompanyOf f0 g0 a0 p1 p2 = out
  refine Met.ofW (cc := cX9_isCompanyOf) (maxL := 3) (ret := (some .boolean)) (by decide) rfl ?_
  intro p e s m args below meth c s₁ B hml hv
  obtain ⟨rfl, hP, hE⟩ := hv
  have hx := B.exec
  have hb := B.bytes
  have hr := B.returns
  have hts := atoms_spec (ws := wsX9_isCompanyOf) B.pre
  have hown : s.vm.findClass RX9 = some m.cls := findClass_of_methodNamed B.named
  have hlocks := B.notSynchronized
  have hK := hE.1
  have hl := lv_entry ([.ref (ad 2), .int p1, .int p2]) (n := 3) (Nat.le_of_ble_eq_true rfl)
  rw [lg_entry_eq]
  generalize (lg_sl ([.ref (ad 2), .int p1, .int p2]) ++ List.replicate (3 - (lg_sl ([.ref (ad 2), .int p1, .int p2])).length) Slot.unset).toArray = ls at hl ⊢
  have hl : lv_has ls 3 [(0, .ref (ad 2)), (1, .int p1), (2, .int p2)] := hl
  obtain ⟨r, hF, hp⟩ : ∃ r, F_X9_isCompanyOf f0 g0 a0 p1 p2 = r ∧ r = out := ⟨out, hF, rfl⟩
  unfold F_X9_isCompanyOf at hF
  refine lv_aload_n hx hb dX9_isCompanyOf_0 rfl (lv_at hl 0 rfl) ?_
  refine lv_iload_n hx hb dX9_isCompanyOf_1 rfl (lv_at hl 2 rfl) ?_
  refine kS_b (va_runV (As := [.int p2]) (rest := []) ⟨hx, hb, hml, hown, hts⟩ (c_X9_isSetOfPeople l hz D ad ck f0 g0 a0 p2) (cwV 1 hts gX9_isCompanyOf_X9_isSetOfPeople rfl rfl rfl ⟨rfl, pX9_isSetOfPeople⟩ ⟨Nat.le_of_ble_eq_true rfl, Nat.le_of_ble_eq_true rfl⟩) (kR.preV (va_recv hK hP (ci := 9) (q0 := 2) rfl rfl) hP hE) rfl rfl hl.1 rfl (lv_room (Nat.le_of_ble_eq_true rfl)) dX9_isCompanyOf_2 ⟨Nat.le_refl _, Nat.le_refl _⟩) (fun hz1 => ?_)
  refine lv_if_eq (tgt := 21) hx hb dX9_isCompanyOf_5 (by decide) (fun hc2 => ?_) (fun hc2 => ?_)
  · have hF := it_p hc2 hF
    refine lv_iconst (v := 0) hx hb dX9_isCompanyOf_21 (by decide) ?_
    have hv := hF.trans hp
    exact W.zret hx hb hr rfl (fun t ht hW => ⟨_, rfl, ⟨hv, by rw [← hv]; exact rfl⟩, ht⟩) (fun q hq => by cases hq) dX9_isCompanyOf_22
  · have hF := it_n hc2 hF
    refine lv_iload_n hx hb dX9_isCompanyOf_8 rfl (lv_at hl 2 rfl) ?_
    refine lv_iload_n hx hb dX9_isCompanyOf_9 rfl (lv_at hl 1 rfl) ?_
    refine lv_ishr hx hb dX9_isCompanyOf_10 ?_
    refine lv_iconst (v := 1) hx hb dX9_isCompanyOf_11 (by decide) ?_
    refine lv_iand hx hb dX9_isCompanyOf_12 ?_
    refine lv_iconst (v := 1) hx hb dX9_isCompanyOf_13 (by decide) ?_
    refine lv_icmp_ne (tgt := 21) hx hb dX9_isCompanyOf_14 (by decide) (fun hc3 => ?_) (fun hc3 => ?_)
    · have hF := it_n hc3 hF
      refine lv_iconst (v := 0) hx hb dX9_isCompanyOf_21 (by decide) ?_
      have hv := hF.trans hp
      exact W.zret hx hb hr rfl (fun t ht hW => ⟨_, rfl, ⟨hv, by rw [← hv]; exact rfl⟩, ht⟩) (fun q hq => by cases hq) dX9_isCompanyOf_22
    · have hF := it_p hc3 hF
      refine lv_iconst (v := 1) hx hb dX9_isCompanyOf_17 (by decide) ?_
      refine lv_goto (tgt := 22) hx hb dX9_isCompanyOf_18 (by decide) ?_
      have hv := hF.trans hp
      exact W.zret hx hb hr rfl (fun t ht hW => ⟨_, rfl, ⟨hv, by rw [← hv]; exact rfl⟩, ht⟩) (fun q hq => by cases hq) dX9_isCompanyOf_22

def F_X6_isSpelt (f0 : Nat → Int32) (g0 : Nat → Int64) (a0 : Nat → Nat → Int32) (p1 : Int32) (p2 : Int32) (p3 : Int32) (p4 : Int32) : Int32 := if p1 = 0 then 0 else if p2 = 0 then 0 else 1
set_option maxHeartbeats 4000000 in
set_option maxRecDepth 100000 in
theorem c_X6_isSpelt (l : Launch) (hz : Nat) (D : va_G) (ad : Nat → Nat) (ck : Nat → ClassId) (f0 : Nat → Int32) (g0 : Nat → Int64) (a0 : Nat → Nat → Int32) (p1 : Int32) (p2 : Int32) (p3 : Int32) (p4 : Int32) : Met l yX6_isSpelt wsX6_isSpelt ({ frames := 0, cells := 0, slots := 0, locals := 0 }) (kR hz D vwCl (tX ck) (wX ad ck f0 g0 a0) [.ref (ad 8), .int p1, .int p2, .int p3, .int p4]) (kZb (F_X6_isSpelt f0 g0 a0 p1 p2 p3 p4)) 0 0 (fun _ => False) := by
  generalize hF : F_X6_isSpelt f0 g0 a0 p1 p2 p3 p4 = out
  refine Met.ofW (cc := cX6_isSpelt) (maxL := 5) (ret := (some .boolean)) (by decide) rfl ?_
  intro p e s m args below meth c s₁ B hml hv
  obtain ⟨rfl, hP, hE⟩ := hv
  have hx := B.exec
  have hb := B.bytes
  have hr := B.returns
  have hts := atoms_spec (ws := wsX6_isSpelt) B.pre
  have hown : s.vm.findClass RX6 = some m.cls := findClass_of_methodNamed B.named
  have hlocks := B.notSynchronized
  have hK := hE.1
  have hl := lv_entry ([.ref (ad 8), .int p1, .int p2, .int p3, .int p4]) (n := 5) (Nat.le_of_ble_eq_true rfl)
  rw [lg_entry_eq]
  generalize (lg_sl ([.ref (ad 8), .int p1, .int p2, .int p3, .int p4]) ++ List.replicate (5 - (lg_sl ([.ref (ad 8), .int p1, .int p2, .int p3, .int p4])).length) Slot.unset).toArray = ls at hl ⊢
  have hl : lv_has ls 5 [(0, .ref (ad 8)), (1, .int p1), (2, .int p2), (3, .int p3), (4, .int p4)] := hl
  obtain ⟨r, hF, hp⟩ : ∃ r, F_X6_isSpelt f0 g0 a0 p1 p2 p3 p4 = r ∧ r = out := ⟨out, hF, rfl⟩
  unfold F_X6_isSpelt at hF
  refine lv_iload_n hx hb dX6_isSpelt_0 rfl (lv_at hl 1 rfl) ?_
  refine lv_if_eq (tgt := 12) hx hb dX6_isSpelt_1 (by decide) (fun hc1 => ?_) (fun hc1 => ?_)
  · have hF := it_p hc1 hF
    refine lv_iconst (v := 0) hx hb dX6_isSpelt_12 (by decide) ?_
    have hv := hF.trans hp
    exact W.zret hx hb hr rfl (fun t ht hW => ⟨_, rfl, ⟨hv, by rw [← hv]; exact rfl⟩, ht⟩) (fun q hq => by cases hq) dX6_isSpelt_13
  · have hF := it_n hc1 hF
    refine lv_iload_n hx hb dX6_isSpelt_4 rfl (lv_at hl 2 rfl) ?_
    refine lv_if_eq (tgt := 12) hx hb dX6_isSpelt_5 (by decide) (fun hc2 => ?_) (fun hc2 => ?_)
    · have hF := it_p hc2 hF
      refine lv_iconst (v := 0) hx hb dX6_isSpelt_12 (by decide) ?_
      have hv := hF.trans hp
      exact W.zret hx hb hr rfl (fun t ht hW => ⟨_, rfl, ⟨hv, by rw [← hv]; exact rfl⟩, ht⟩) (fun q hq => by cases hq) dX6_isSpelt_13
    · have hF := it_n hc2 hF
      refine lv_iconst (v := 1) hx hb dX6_isSpelt_8 (by decide) ?_
      refine lv_goto (tgt := 13) hx hb dX6_isSpelt_9 (by decide) ?_
      have hv := hF.trans hp
      exact W.zret hx hb hr rfl (fun t ht hW => ⟨_, rfl, ⟨hv, by rw [← hv]; exact rfl⟩, ht⟩) (fun q hq => by cases hq) dX6_isSpelt_13

def N_X2_isSpelt_12 (f0 : Nat → Int32) (g0 : Nat → Int64) (a0 : Nat → Nat → Int32) : Int32 := 1
def F_X2_isSpelt (f0 : Nat → Int32) (g0 : Nat → Int64) (a0 : Nat → Nat → Int32) (p1 : Int32) (p2 : Int32) (p3 : Int32) (p4 : Int32) : Int32 := if p3 = 0 then N_X2_isSpelt_12 f0 g0 a0 else if p1 = 0 then 0 else if p2 = 0 then 0 else N_X2_isSpelt_12 f0 g0 a0
set_option maxHeartbeats 4000000 in
set_option maxRecDepth 100000 in
theorem c_X2_isSpelt (l : Launch) (hz : Nat) (D : va_G) (ad : Nat → Nat) (ck : Nat → ClassId) (f0 : Nat → Int32) (g0 : Nat → Int64) (a0 : Nat → Nat → Int32) (p1 : Int32) (p2 : Int32) (p3 : Int32) (p4 : Int32) : Met l yX2_isSpelt wsX2_isSpelt ({ frames := 0, cells := 0, slots := 0, locals := 0 }) (kR hz D vwCl (tX ck) (wX ad ck f0 g0 a0) [.ref (ad 9), .int p1, .int p2, .int p3, .int p4]) (kZb (F_X2_isSpelt f0 g0 a0 p1 p2 p3 p4)) 0 0 (fun _ => False) := by
  generalize hF : F_X2_isSpelt f0 g0 a0 p1 p2 p3 p4 = out
  refine Met.ofW (cc := cX2_isSpelt) (maxL := 5) (ret := (some .boolean)) (by decide) rfl ?_
  intro p e s m args below meth c s₁ B hml hv
  obtain ⟨rfl, hP, hE⟩ := hv
  have hx := B.exec
  have hb := B.bytes
  have hr := B.returns
  have hts := atoms_spec (ws := wsX2_isSpelt) B.pre
  have hown : s.vm.findClass RX2 = some m.cls := findClass_of_methodNamed B.named
  have hlocks := B.notSynchronized
  have hK := hE.1
  have hN_12 : ∀ (ls : Array Slot), lv_has ls 5 [] → ∀ r : Int32, N_X2_isSpelt_12 f0 g0 a0 = r → (fun r => r = out) r → W p l e (headSpec wsX2_isSpelt ({ frames := 0, cells := 0, slots := 0, locals := 0 })).room s m [.ref (ad 9), .int p1, .int p2, .int p3, .int p4].toArray below meth c s.heap [] 0 0 (MQ below (kZb out) [.ref (ad 9), .int p1, .int p2, .int p3, .int p4].toArray s 0 0 (fun _ => False)) (F0 m 12 ls []) := by
    intro  ls hl r hF hp
    unfold N_X2_isSpelt_12 at hF
    refine lv_iconst (v := 1) hx hb dX2_isSpelt_12 (by decide) ?_
    refine lv_goto (tgt := 17) hx hb dX2_isSpelt_13 (by decide) ?_
    have hv := hF.trans hp
    exact W.zret hx hb hr rfl (fun t ht hW => ⟨_, rfl, ⟨hv, by rw [← hv]; exact rfl⟩, ht⟩) (fun q hq => by cases hq) dX2_isSpelt_17
  have hl := lv_entry ([.ref (ad 9), .int p1, .int p2, .int p3, .int p4]) (n := 5) (Nat.le_of_ble_eq_true rfl)
  rw [lg_entry_eq]
  generalize (lg_sl ([.ref (ad 9), .int p1, .int p2, .int p3, .int p4]) ++ List.replicate (5 - (lg_sl ([.ref (ad 9), .int p1, .int p2, .int p3, .int p4])).length) Slot.unset).toArray = ls at hl ⊢
  have hl : lv_has ls 5 [(0, .ref (ad 9)), (1, .int p1), (2, .int p2), (3, .int p3), (4, .int p4)] := hl
  obtain ⟨r, hF, hp⟩ : ∃ r, F_X2_isSpelt f0 g0 a0 p1 p2 p3 p4 = r ∧ r = out := ⟨out, hF, rfl⟩
  unfold F_X2_isSpelt at hF
  refine lv_iload_n hx hb dX2_isSpelt_0 rfl (lv_at hl 3 rfl) ?_
  refine lv_if_eq (tgt := 12) hx hb dX2_isSpelt_1 (by decide) (fun hc1 => ?_) (fun hc1 => ?_)
  · have hF := it_p hc1 hF
    exact hN_12  ls (lv_sub hl [] rfl) _ hF hp
  · have hF := it_n hc1 hF
    refine lv_iload_n hx hb dX2_isSpelt_4 rfl (lv_at hl 1 rfl) ?_
    refine lv_if_eq (tgt := 16) hx hb dX2_isSpelt_5 (by decide) (fun hc2 => ?_) (fun hc2 => ?_)
    · have hF := it_p hc2 hF
      refine lv_iconst (v := 0) hx hb dX2_isSpelt_16 (by decide) ?_
      have hv := hF.trans hp
      exact W.zret hx hb hr rfl (fun t ht hW => ⟨_, rfl, ⟨hv, by rw [← hv]; exact rfl⟩, ht⟩) (fun q hq => by cases hq) dX2_isSpelt_17
    · have hF := it_n hc2 hF
      refine lv_iload_n hx hb dX2_isSpelt_8 rfl (lv_at hl 2 rfl) ?_
      refine lv_if_eq (tgt := 16) hx hb dX2_isSpelt_9 (by decide) (fun hc3 => ?_) (fun hc3 => ?_)
      · have hF := it_p hc3 hF
        refine lv_iconst (v := 0) hx hb dX2_isSpelt_16 (by decide) ?_
        have hv := hF.trans hp
        exact W.zret hx hb hr rfl (fun t ht hW => ⟨_, rfl, ⟨hv, by rw [← hv]; exact rfl⟩, ht⟩) (fun q hq => by cases hq) dX2_isSpelt_17
      · have hF := it_n hc3 hF
        exact hN_12  ls (lv_sub hl [] rfl) _ hF hp

def N_X0_isSpelt_8 (f0 : Nat → Int32) (g0 : Nat → Int64) (a0 : Nat → Nat → Int32) : Int32 := 1
def F_X0_isSpelt (f0 : Nat → Int32) (g0 : Nat → Int64) (a0 : Nat → Nat → Int32) (p1 : Int32) (p2 : Int32) (p3 : Int32) (p4 : Int32) : Int32 := if p1 = 0 then if p2 = 0 then 0 else N_X0_isSpelt_8 f0 g0 a0 else N_X0_isSpelt_8 f0 g0 a0
set_option maxHeartbeats 4000000 in
set_option maxRecDepth 100000 in
theorem c_X0_isSpelt (l : Launch) (hz : Nat) (D : va_G) (ad : Nat → Nat) (ck : Nat → ClassId) (f0 : Nat → Int32) (g0 : Nat → Int64) (a0 : Nat → Nat → Int32) (p1 : Int32) (p2 : Int32) (p3 : Int32) (p4 : Int32) : Met l yX0_isSpelt wsX0_isSpelt ({ frames := 0, cells := 0, slots := 0, locals := 0 }) (kR hz D vwCl (tX ck) (wX ad ck f0 g0 a0) [.ref (ad 10), .int p1, .int p2, .int p3, .int p4]) (kZb (F_X0_isSpelt f0 g0 a0 p1 p2 p3 p4)) 0 0 (fun _ => False) := by
  generalize hF : F_X0_isSpelt f0 g0 a0 p1 p2 p3 p4 = out
  refine Met.ofW (cc := cX0_isSpelt) (maxL := 5) (ret := (some .boolean)) (by decide) rfl ?_
  intro p e s m args below meth c s₁ B hml hv
  obtain ⟨rfl, hP, hE⟩ := hv
  have hx := B.exec
  have hb := B.bytes
  have hr := B.returns
  have hts := atoms_spec (ws := wsX0_isSpelt) B.pre
  have hown : s.vm.findClass RX0 = some m.cls := findClass_of_methodNamed B.named
  have hlocks := B.notSynchronized
  have hK := hE.1
  have hN_8 : ∀ (ls : Array Slot), lv_has ls 5 [] → ∀ r : Int32, N_X0_isSpelt_8 f0 g0 a0 = r → (fun r => r = out) r → W p l e (headSpec wsX0_isSpelt ({ frames := 0, cells := 0, slots := 0, locals := 0 })).room s m [.ref (ad 10), .int p1, .int p2, .int p3, .int p4].toArray below meth c s.heap [] 0 0 (MQ below (kZb out) [.ref (ad 10), .int p1, .int p2, .int p3, .int p4].toArray s 0 0 (fun _ => False)) (F0 m 8 ls []) := by
    intro  ls hl r hF hp
    unfold N_X0_isSpelt_8 at hF
    refine lv_iconst (v := 1) hx hb dX0_isSpelt_8 (by decide) ?_
    refine lv_goto (tgt := 13) hx hb dX0_isSpelt_9 (by decide) ?_
    have hv := hF.trans hp
    exact W.zret hx hb hr rfl (fun t ht hW => ⟨_, rfl, ⟨hv, by rw [← hv]; exact rfl⟩, ht⟩) (fun q hq => by cases hq) dX0_isSpelt_13
  have hl := lv_entry ([.ref (ad 10), .int p1, .int p2, .int p3, .int p4]) (n := 5) (Nat.le_of_ble_eq_true rfl)
  rw [lg_entry_eq]
  generalize (lg_sl ([.ref (ad 10), .int p1, .int p2, .int p3, .int p4]) ++ List.replicate (5 - (lg_sl ([.ref (ad 10), .int p1, .int p2, .int p3, .int p4])).length) Slot.unset).toArray = ls at hl ⊢
  have hl : lv_has ls 5 [(0, .ref (ad 10)), (1, .int p1), (2, .int p2), (3, .int p3), (4, .int p4)] := hl
  obtain ⟨r, hF, hp⟩ : ∃ r, F_X0_isSpelt f0 g0 a0 p1 p2 p3 p4 = r ∧ r = out := ⟨out, hF, rfl⟩
  unfold F_X0_isSpelt at hF
  refine lv_iload_n hx hb dX0_isSpelt_0 rfl (lv_at hl 1 rfl) ?_
  refine lv_if_ne (tgt := 8) hx hb dX0_isSpelt_1 (by decide) (fun hc1 => ?_) (fun hc1 => ?_)
  · have hF := it_n hc1 hF
    exact hN_8  ls (lv_sub hl [] rfl) _ hF hp
  · have hF := it_p hc1 hF
    refine lv_iload_n hx hb dX0_isSpelt_4 rfl (lv_at hl 2 rfl) ?_
    refine lv_if_eq (tgt := 12) hx hb dX0_isSpelt_5 (by decide) (fun hc2 => ?_) (fun hc2 => ?_)
    · have hF := it_p hc2 hF
      refine lv_iconst (v := 0) hx hb dX0_isSpelt_12 (by decide) ?_
      have hv := hF.trans hp
      exact W.zret hx hb hr rfl (fun t ht hW => ⟨_, rfl, ⟨hv, by rw [← hv]; exact rfl⟩, ht⟩) (fun q hq => by cases hq) dX0_isSpelt_13
    · have hF := it_n hc2 hF
      exact hN_8  ls (lv_sub hl [] rfl) _ hF hp

def F_X8_isSpelt (f0 : Nat → Int32) (g0 : Nat → Int64) (a0 : Nat → Nat → Int32) (p1 : Int32) (p2 : Int32) (p3 : Int32) (p4 : Int32) : Int32 := if p1 = 0 then 0 else if p2 = 0 then 0 else if p4 = 0 then 1 else 0
set_option maxHeartbeats 4000000 in
set_option maxRecDepth 100000 in
theorem c_X8_isSpelt (l : Launch) (hz : Nat) (D : va_G) (ad : Nat → Nat) (ck : Nat → ClassId) (f0 : Nat → Int32) (g0 : Nat → Int64) (a0 : Nat → Nat → Int32) (p1 : Int32) (p2 : Int32) (p3 : Int32) (p4 : Int32) : Met l yX8_isSpelt wsX8_isSpelt ({ frames := 0, cells := 0, slots := 0, locals := 0 }) (kR hz D vwCl (tX ck) (wX ad ck f0 g0 a0) [.ref (ad 11), .int p1, .int p2, .int p3, .int p4]) (kZb (F_X8_isSpelt f0 g0 a0 p1 p2 p3 p4)) 0 0 (fun _ => False) := by
  generalize hF : F_X8_isSpelt f0 g0 a0 p1 p2 p3 p4 = out
  refine Met.ofW (cc := cX8_isSpelt) (maxL := 5) (ret := (some .boolean)) (by decide) rfl ?_
  intro p e s m args below meth c s₁ B hml hv
  obtain ⟨rfl, hP, hE⟩ := hv
  have hx := B.exec
  have hb := B.bytes
  have hr := B.returns
  have hts := atoms_spec (ws := wsX8_isSpelt) B.pre
  have hown : s.vm.findClass RX8 = some m.cls := findClass_of_methodNamed B.named
  have hlocks := B.notSynchronized
  have hK := hE.1
  have hl := lv_entry ([.ref (ad 11), .int p1, .int p2, .int p3, .int p4]) (n := 5) (Nat.le_of_ble_eq_true rfl)
  rw [lg_entry_eq]
  generalize (lg_sl ([.ref (ad 11), .int p1, .int p2, .int p3, .int p4]) ++ List.replicate (5 - (lg_sl ([.ref (ad 11), .int p1, .int p2, .int p3, .int p4])).length) Slot.unset).toArray = ls at hl ⊢
  have hl : lv_has ls 5 [(0, .ref (ad 11)), (1, .int p1), (2, .int p2), (3, .int p3), (4, .int p4)] := hl
  obtain ⟨r, hF, hp⟩ : ∃ r, F_X8_isSpelt f0 g0 a0 p1 p2 p3 p4 = r ∧ r = out := ⟨out, hF, rfl⟩
  unfold F_X8_isSpelt at hF
  refine lv_iload_n hx hb dX8_isSpelt_0 rfl (lv_at hl 1 rfl) ?_
  refine lv_if_eq (tgt := 17) hx hb dX8_isSpelt_1 (by decide) (fun hc1 => ?_) (fun hc1 => ?_)
  · have hF := it_p hc1 hF
    refine lv_iconst (v := 0) hx hb dX8_isSpelt_17 (by decide) ?_
    have hv := hF.trans hp
    exact W.zret hx hb hr rfl (fun t ht hW => ⟨_, rfl, ⟨hv, by rw [← hv]; exact rfl⟩, ht⟩) (fun q hq => by cases hq) dX8_isSpelt_18
  · have hF := it_n hc1 hF
    refine lv_iload_n hx hb dX8_isSpelt_4 rfl (lv_at hl 2 rfl) ?_
    refine lv_if_eq (tgt := 17) hx hb dX8_isSpelt_5 (by decide) (fun hc2 => ?_) (fun hc2 => ?_)
    · have hF := it_p hc2 hF
      refine lv_iconst (v := 0) hx hb dX8_isSpelt_17 (by decide) ?_
      have hv := hF.trans hp
      exact W.zret hx hb hr rfl (fun t ht hW => ⟨_, rfl, ⟨hv, by rw [← hv]; exact rfl⟩, ht⟩) (fun q hq => by cases hq) dX8_isSpelt_18
    · have hF := it_n hc2 hF
      refine lv_iload hx hb dX8_isSpelt_8 (lv_at hl 4 rfl) ?_
      refine lv_if_ne (tgt := 17) hx hb dX8_isSpelt_10 (by decide) (fun hc3 => ?_) (fun hc3 => ?_)
      · have hF := it_n hc3 hF
        refine lv_iconst (v := 0) hx hb dX8_isSpelt_17 (by decide) ?_
        have hv := hF.trans hp
        exact W.zret hx hb hr rfl (fun t ht hW => ⟨_, rfl, ⟨hv, by rw [← hv]; exact rfl⟩, ht⟩) (fun q hq => by cases hq) dX8_isSpelt_18
      · have hF := it_p hc3 hF
        refine lv_iconst (v := 1) hx hb dX8_isSpelt_13 (by decide) ?_
        refine lv_goto (tgt := 18) hx hb dX8_isSpelt_14 (by decide) ?_
        have hv := hF.trans hp
        exact W.zret hx hb hr rfl (fun t ht hW => ⟨_, rfl, ⟨hv, by rw [← hv]; exact rfl⟩, ht⟩) (fun q hq => by cases hq) dX8_isSpelt_18

def F_X10_isSpelt (f0 : Nat → Int32) (g0 : Nat → Int64) (a0 : Nat → Nat → Int32) (p1 : Int32) (p2 : Int32) (p3 : Int32) (p4 : Int32) : Int32 := p1
set_option maxHeartbeats 4000000 in
set_option maxRecDepth 100000 in
theorem c_X10_isSpelt (l : Launch) (hz : Nat) (D : va_G) (ad : Nat → Nat) (ck : Nat → ClassId) (f0 : Nat → Int32) (g0 : Nat → Int64) (a0 : Nat → Nat → Int32) (p1 : Int32) (p2 : Int32) (p3 : Int32) (p4 : Int32) (hz_p1 : narrow .boolean (.int p1) = .int p1) : Met l yX10_isSpelt wsX10_isSpelt ({ frames := 0, cells := 0, slots := 0, locals := 0 }) (kR hz D vwCl (tX ck) (wX ad ck f0 g0 a0) [.ref (ad 12), .int p1, .int p2, .int p3, .int p4]) (kZb (F_X10_isSpelt f0 g0 a0 p1 p2 p3 p4)) 0 0 (fun _ => False) := by
  generalize hF : F_X10_isSpelt f0 g0 a0 p1 p2 p3 p4 = out
  refine Met.ofW (cc := cX10_isSpelt) (maxL := 5) (ret := (some .boolean)) (by decide) rfl ?_
  intro p e s m args below meth c s₁ B hml hv
  obtain ⟨rfl, hP, hE⟩ := hv
  have hx := B.exec
  have hb := B.bytes
  have hr := B.returns
  have hts := atoms_spec (ws := wsX10_isSpelt) B.pre
  have hown : s.vm.findClass RX10 = some m.cls := findClass_of_methodNamed B.named
  have hlocks := B.notSynchronized
  have hK := hE.1
  have hl := lv_entry ([.ref (ad 12), .int p1, .int p2, .int p3, .int p4]) (n := 5) (Nat.le_of_ble_eq_true rfl)
  rw [lg_entry_eq]
  generalize (lg_sl ([.ref (ad 12), .int p1, .int p2, .int p3, .int p4]) ++ List.replicate (5 - (lg_sl ([.ref (ad 12), .int p1, .int p2, .int p3, .int p4])).length) Slot.unset).toArray = ls at hl ⊢
  have hl : lv_has ls 5 [(0, .ref (ad 12)), (1, .int p1), (2, .int p2), (3, .int p3), (4, .int p4)] := hl
  obtain ⟨r, hF, hp⟩ : ∃ r, F_X10_isSpelt f0 g0 a0 p1 p2 p3 p4 = r ∧ r = out := ⟨out, hF, rfl⟩
  unfold F_X10_isSpelt at hF
  refine lv_iload_n hx hb dX10_isSpelt_0 rfl (lv_at hl 1 rfl) ?_
  have hv := hF.trans hp
  exact W.zret hx hb hr hz_p1 (fun t ht hW => ⟨_, rfl, ⟨hv, by rw [← hv]; exact hz_p1⟩, ht⟩) (fun q hq => by cases hq) dX10_isSpelt_1
