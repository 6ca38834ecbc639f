/-! ===== the class, by program (tools/gen.py) ===== -/
/-- a text's methods: the class's one text at ak, its bytes at vk -/
def kJ (hz ak vk : Nat) (av : List Value) : Array Value → State → Prop := va_Pc av (fun U => vk_S 1 [5] [[112, 104, 102, 114, 116]] (fun _ => ak) (fun _ => vk) (fun q => hz ≤ q) U U.heap ∧ va_Z "java/lang/String" "COMPACT_STRINGS" "Z" (.int 1) (fun q => hz ≤ q) U U.heap)
theorem kJ.blind {hz ak vk : Nat} {av : List Value} : FrameBlind (kJ hz ak vk av) := fun a U g mk h => ⟨h.1, vk_S.moved (u := U) (U := U.calling g mk a) (Vm.Alike.refl U.vm) h.2.1, va_Z.moved (u := U) (U := U.calling g mk a) (Vm.Alike.refl U.vm) h.2.2⟩
theorem kJ.preS {hz ak vk : Nat} {As : List Value} {s : State} {H : Heap} (hJ : vk_S 1 [5] [[112, 104, 102, 114, 116]] (fun _ => ak) (fun _ => vk) (fun q => hz ≤ q) s H) (hZ : va_Z "java/lang/String" "COMPACT_STRINGS" "Z" (.int 1) (fun q => hz ≤ q) s H) : PreS s H (kJ hz ak vk As) As := ⟨kJ.blind, fun U hU hW => ⟨rfl, by rw [hU]; exact vk_S.moved hW.alike hJ, by rw [hU]; exact va_Z.moved hW.alike hZ⟩⟩
theorem kJ.preV {hz ak vk : Nat} {As : List Value} {s : State} {H : Heap} {C : String} (hr : ∃ cell : Cell, H[ak]? = some cell ∧ cell.vm.isStatics = false ∧ s.vm.findClass C = some cell.cls) (hJ : vk_S 1 [5] [[112, 104, 102, 114, 116]] (fun _ => ak) (fun _ => vk) (fun q => hz ≤ q) s H) (hZ : va_Z "java/lang/String" "COMPACT_STRINGS" "Z" (.int 1) (fun q => hz ≤ q) s H) : PreV s H C ak (kJ hz ak vk (.ref ak :: As)) As := ⟨kJ.blind, hr, fun U hU hW => ⟨rfl, by rw [hU]; exact vk_S.moved hW.alike hJ, by rw [hU]; exact va_Z.moved hW.alike hZ⟩⟩
def F_str (j : Nat) : Int32 := ([112, 104, 102, 114, 116] : List Int32).getD j 0

def F_J0_coder_7d493 : Int32 := 0
set_option maxHeartbeats 4000000 in
set_option maxRecDepth 100000 in
theorem c_J0_coder_7d493 (l : Launch) (hz ak vk : Nat) : Met l yJ0_coder_7d493 wsJ0_coder_7d493 ({ frames := 0, cells := 0, slots := 0, locals := 0 }) (kJ hz ak vk [.ref ak]) (kZi (F_J0_coder_7d493)) 0 0 (fun _ => False) := by
  generalize hF : F_J0_coder_7d493 = out
  refine Met.ofW (cc := cJ0_coder_7d493) (maxL := 1) (ret := (some .byte)) (by decide) rfl ?_
  intro p e s m args below meth c s₁ B hml hv
  obtain ⟨rfl, hJ, hZ⟩ := hv
  have hx := B.exec
  have hb := B.bytes
  have hr := B.returns
  have hts := atoms_spec (ws := wsJ0_coder_7d493) B.pre
  have hown : s.vm.findClass RJ0 = some m.cls := findClass_of_methodNamed B.named
  have hlocks := B.notSynchronized
  have hS : va_S (fun q => hz ≤ q) s.heap s.heap [] := va_S.rf
  have hf15 := hts (.fieldLink RJ0 15 "java/lang/String" "coder" "B") (by decide +kernel)
  have hf38 := hts (.fieldLink RJ0 38 "java/lang/String" "COMPACT_STRINGS" "Z") (by decide +kernel)
  have hl := lv_entry ([.ref ak]) (n := 1) (Nat.le_of_ble_eq_true rfl)
  rw [lg_entry_eq]
  generalize (lg_sl ([.ref ak]) ++ List.replicate (1 - (lg_sl ([.ref ak])).length) Slot.unset).toArray = ls at hl ⊢
  have hl : lv_has ls 1 [(0, .ref ak)] := hl
  obtain ⟨r, hF, hp⟩ : ∃ r, F_J0_coder_7d493 = r ∧ r = out := ⟨out, hF, rfl⟩
  unfold F_J0_coder_7d493 at hF
  refine va_gets hx hb hZ hS hown hf38 (fun _ h9 => h9) dJ0_coder_7d493_0 ?_
  refine lv_if_eq (tgt := 13) hx hb dJ0_coder_7d493_3 (by decide) (fun hc1 => ?_) (fun hc1 => ?_)
  · exact absurd hc1 (by decide)
  · refine lv_aload_n hx hb dJ0_coder_7d493_6 rfl (lv_at hl 0 rfl) ?_
    refine vk_getf hx hb (hJ.1 0 (by decide)).2.1 hS hown hf15 (fun _ h9 => h9) dJ0_coder_7d493_7 ?_
    refine lv_goto (tgt := 14) hx hb dJ0_coder_7d493_10 (by decide) ?_
    exact W.zret hx hb hr rfl (fun t ht hW => ⟨_, rfl, hF.trans hp, ht⟩) (fun q hq => by cases hq) dJ0_coder_7d493_14

def F_J0_length_8abf5 : Int32 := ((5 : Int32) >>> ((0 : Int32) &&& 31))
set_option maxHeartbeats 4000000 in
set_option maxRecDepth 100000 in
theorem c_J0_length_8abf5 (l : Launch) (hz ak vk : Nat) : Met l yJ0_length_8abf5 wsJ0_length_8abf5 ({ frames := 1, cells := 0, slots := 0, locals := 20 }) (kJ hz ak vk [.ref ak]) (kZi (F_J0_length_8abf5)) 0 0 (fun _ => False) := by
  generalize hF : F_J0_length_8abf5 = out
  refine Met.ofW (cc := cJ0_length_8abf5) (maxL := 1) (ret := (some .int)) (by decide) rfl ?_
  intro p e s m args below meth c s₁ B hml hv
  obtain ⟨rfl, hJ, hZ⟩ := hv
  have hx := B.exec
  have hb := B.bytes
  have hr := B.returns
  have hts := atoms_spec (ws := wsJ0_length_8abf5) B.pre
  have hown : s.vm.findClass RJ0 = some m.cls := findClass_of_methodNamed B.named
  have hlocks := B.notSynchronized
  have hS : va_S (fun q => hz ≤ q) s.heap s.heap [] := va_S.rf
  have hf9 := hts (.fieldLink RJ0 9 "java/lang/String" "value" "[B") (by decide +kernel)
  have hl := lv_entry ([.ref ak]) (n := 1) (Nat.le_of_ble_eq_true rfl)
  rw [lg_entry_eq]
  generalize (lg_sl ([.ref ak]) ++ List.replicate (1 - (lg_sl ([.ref ak])).length) Slot.unset).toArray = ls at hl ⊢
  have hl : lv_has ls 1 [(0, .ref ak)] := hl
  obtain ⟨r, hF, hp⟩ : ∃ r, F_J0_length_8abf5 = r ∧ r = out := ⟨out, hF, rfl⟩
  unfold F_J0_length_8abf5 at hF
  refine lv_aload_n hx hb dJ0_length_8abf5_0 rfl (lv_at hl 0 rfl) ?_
  refine vk_getf hx hb (hJ.1 0 (by decide)).2.2.1 hS hown hf9 (fun _ h9 => h9) dJ0_length_8abf5_1 ?_
  refine va_tlen hx hb (hJ.1 0 (by decide)).2.2.2 hS (v := 5) rfl dJ0_length_8abf5_4 ?_
  refine lv_aload_n hx hb dJ0_length_8abf5_5 rfl (lv_at hl 0 rfl) ?_
  refine kS_i (va_runV (As := []) (rest := [.int 5]) ⟨hx, hb, hml, hown, hts⟩ (c_J0_coder_7d493 l hz ak vk ) (cwV 0 hts gJ0_length_8abf5_J0_coder_7d493 rfl rfl rfl ⟨rfl, pJ0_coder_7d493⟩ ⟨Nat.le_of_ble_eq_true rfl, Nat.le_of_ble_eq_true rfl⟩) (kJ.preV (vk_recv hJ (i := 0) (by decide) hS) hJ hZ) rfl rfl hl.1 rfl (lv_room (Nat.le_of_ble_eq_true rfl)) dJ0_length_8abf5_6 ⟨Nat.le_refl _, Nat.le_refl _⟩) ?_
  refine lv_ishr hx hb dJ0_length_8abf5_9 ?_
  exact W.iret hx hb hr (fun t ht hW => ⟨_, rfl, hF.trans hp, ht⟩) (fun q hq => by cases hq) dJ0_length_8abf5_10

def F_J0_isLatin1_aae02 : Int32 := 1
set_option maxHeartbeats 4000000 in
set_option maxRecDepth 100000 in
theorem c_J0_isLatin1_aae02 (l : Launch) (hz ak vk : Nat) : Met l yJ0_isLatin1_aae02 wsJ0_isLatin1_aae02 ({ frames := 0, cells := 0, slots := 0, locals := 0 }) (kJ hz ak vk [.ref ak]) (kZb (F_J0_isLatin1_aae02)) 0 0 (fun _ => False) := by
  generalize hF : F_J0_isLatin1_aae02 = out
  refine Met.ofW (cc := cJ0_isLatin1_aae02) (maxL := 1) (ret := (some .boolean)) (by decide) rfl ?_
  intro p e s m args below meth c s₁ B hml hv
  obtain ⟨rfl, hJ, hZ⟩ := hv
  have hx := B.exec
  have hb := B.bytes
  have hr := B.returns
  have hts := atoms_spec (ws := wsJ0_isLatin1_aae02) B.pre
  have hown : s.vm.findClass RJ0 = some m.cls := findClass_of_methodNamed B.named
  have hlocks := B.notSynchronized
  have hS : va_S (fun q => hz ≤ q) s.heap s.heap [] := va_S.rf
  have hf15 := hts (.fieldLink RJ0 15 "java/lang/String" "coder" "B") (by decide +kernel)
  have hf38 := hts (.fieldLink RJ0 38 "java/lang/String" "COMPACT_STRINGS" "Z") (by decide +kernel)
  have hl := lv_entry ([.ref ak]) (n := 1) (Nat.le_of_ble_eq_true rfl)
  rw [lg_entry_eq]
  generalize (lg_sl ([.ref ak]) ++ List.replicate (1 - (lg_sl ([.ref ak])).length) Slot.unset).toArray = ls at hl ⊢
  have hl : lv_has ls 1 [(0, .ref ak)] := hl
  obtain ⟨r, hF, hp⟩ : ∃ r, F_J0_isLatin1_aae02 = r ∧ r = out := ⟨out, hF, rfl⟩
  unfold F_J0_isLatin1_aae02 at hF
  refine va_gets hx hb hZ hS hown hf38 (fun _ h9 => h9) dJ0_isLatin1_aae02_0 ?_
  refine lv_if_eq (tgt := 17) hx hb dJ0_isLatin1_aae02_3 (by decide) (fun hc1 => ?_) (fun hc1 => ?_)
  · exact absurd hc1 (by decide)
  · refine lv_aload_n hx hb dJ0_isLatin1_aae02_6 rfl (lv_at hl 0 rfl) ?_
    refine vk_getf hx hb (hJ.1 0 (by decide)).2.1 hS hown hf15 (fun _ h9 => h9) dJ0_isLatin1_aae02_7 ?_
    refine lv_if_ne (tgt := 17) hx hb dJ0_isLatin1_aae02_10 (by decide) (fun hc2 => ?_) (fun hc2 => ?_)
    · exact absurd hc2 (by decide)
    · refine lv_iconst (v := 1) hx hb dJ0_isLatin1_aae02_13 (by decide) ?_
      refine lv_goto (tgt := 18) hx hb dJ0_isLatin1_aae02_14 (by decide) ?_
      have hv := hF.trans hp
      exact W.zret hx hb hr rfl (fun t ht hW => ⟨_, rfl, ⟨hv, by rw [← hv]; exact rfl⟩, ht⟩) (fun q hq => by cases hq) dJ0_isLatin1_aae02_18

def F_J1_canEncode_9a6ad (p0 : Int32) : Int32 := if p0 < 0 then 0 else if 255 < p0 then 0 else 1
set_option maxHeartbeats 4000000 in
set_option maxRecDepth 100000 in
theorem c_J1_canEncode_9a6ad (l : Launch) (hz ak vk : Nat) (p0 : Int32) : Met l yJ1_canEncode_9a6ad wsJ1_canEncode_9a6ad ({ frames := 0, cells := 0, slots := 0, locals := 0 }) (kJ hz ak vk [.int p0]) (kZb (F_J1_canEncode_9a6ad p0)) 0 0 (fun _ => False) := by
  generalize hF : F_J1_canEncode_9a6ad p0 = out
  refine Met.ofW (cc := cJ1_canEncode_9a6ad) (maxL := 1) (ret := (some .boolean)) (by decide) rfl ?_
  intro p e s m args below meth c s₁ B hml hv
  obtain ⟨rfl, hJ, hZ⟩ := hv
  have hx := B.exec
  have hb := B.bytes
  have hr := B.returns
  have hts := atoms_spec (ws := wsJ1_canEncode_9a6ad) B.pre
  have hown : s.vm.findClass RJ1 = some m.cls := findClass_of_methodNamed B.named
  have hlocks := B.notSynchronized
  have hS : va_S (fun q => hz ≤ q) s.heap s.heap [] := va_S.rf
  have hl := lv_entry ([.int p0]) (n := 1) (Nat.le_of_ble_eq_true rfl)
  rw [lg_entry_eq]
  generalize (lg_sl ([.int p0]) ++ List.replicate (1 - (lg_sl ([.int p0])).length) Slot.unset).toArray = ls at hl ⊢
  have hl : lv_has ls 1 [(0, .int p0)] := hl
  obtain ⟨r, hF, hp⟩ : ∃ r, F_J1_canEncode_9a6ad p0 = r ∧ r = out := ⟨out, hF, rfl⟩
  unfold F_J1_canEncode_9a6ad at hF
  refine lv_iload_n hx hb dJ1_canEncode_9a6ad_0 rfl (lv_at hl 0 rfl) ?_
  refine lv_if_lt (tgt := 15) hx hb dJ1_canEncode_9a6ad_1 (by decide) (fun hc1 => ?_) (fun hc1 => ?_)
  · have hF := it_p hc1 hF
    refine lv_iconst (v := 0) hx hb dJ1_canEncode_9a6ad_15 (by decide) ?_
    have hv := hF.trans hp
    exact W.zret hx hb hr rfl (fun t ht hW => ⟨_, rfl, ⟨hv, by rw [← hv]; exact rfl⟩, ht⟩) (fun q hq => by cases hq) dJ1_canEncode_9a6ad_16
  · have hF := it_n hc1 hF
    refine lv_iload_n hx hb dJ1_canEncode_9a6ad_4 rfl (lv_at hl 0 rfl) ?_
    refine lv_sipush (v := 255) hx hb dJ1_canEncode_9a6ad_5 (by decide) ?_
    refine lv_icmp_gt (tgt := 15) hx hb dJ1_canEncode_9a6ad_8 (by decide) (fun hc2 => ?_) (fun hc2 => ?_)
    · have hF := it_p hc2 hF
      refine lv_iconst (v := 0) hx hb dJ1_canEncode_9a6ad_15 (by decide) ?_
      have hv := hF.trans hp
      exact W.zret hx hb hr rfl (fun t ht hW => ⟨_, rfl, ⟨hv, by rw [← hv]; exact rfl⟩, ht⟩) (fun q hq => by cases hq) dJ1_canEncode_9a6ad_16
    · have hF := it_n hc2 hF
      refine lv_iconst (v := 1) hx hb dJ1_canEncode_9a6ad_11 (by decide) ?_
      refine lv_goto (tgt := 16) hx hb dJ1_canEncode_9a6ad_12 (by decide) ?_
      have hv := hF.trans hp
      exact W.zret hx hb hr rfl (fun t ht hW => ⟨_, rfl, ⟨hv, by rw [← hv]; exact rfl⟩, ht⟩) (fun q hq => by cases hq) dJ1_canEncode_9a6ad_16

def B_J1_indexOfChar_4cfef_7 (x3_7 : Int32) (x4_7 : Int32) (x5_7 : Int32) : Option ((Int32) ⊕ Int32) := if x3_7 ≤ x5_7 then Option.map Sum.inr (some (-1)) else gd (inB x5_7 5) (if (F_str x5_7.toNatClampNeg) = x4_7 then Option.map Sum.inr (some x5_7) else some (.inl (x5_7 + 1)))
def N_J1_indexOfChar_4cfef_7 (x3_7 : Int32) (x4_7 : Int32) (x5_7 : Int32) : Option Int32 := lpN (fun q7 : (Int32) => B_J1_indexOfChar_4cfef_7 x3_7 x4_7 q7) kFu x5_7
def F_J1_indexOfChar_4cfef (p1 : Int32) (p2 : Int32) (p3 : Int32) : Option Int32 := N_J1_indexOfChar_4cfef_7 p3 (p1.toInt8.toInt32) p2
set_option maxHeartbeats 4000000 in
set_option maxRecDepth 100000 in
theorem c_J1_indexOfChar_4cfef (l : Launch) (hz ak vk : Nat) (p1 : Int32) (p2 : Int32) (p3 : Int32) (out : Int32) (hF : F_J1_indexOfChar_4cfef p1 p2 p3 = some out) : Met l yJ1_indexOfChar_4cfef wsJ1_indexOfChar_4cfef ({ frames := 0, cells := 0, slots := 0, locals := 0 }) (kJ hz ak vk [.ref vk, .int p1, .int p2, .int p3]) (kZi out) 0 0 (fun _ => False) := by
  refine Met.ofW (cc := cJ1_indexOfChar_4cfef) (maxL := 6) (ret := (some .int)) (by decide) rfl ?_
  intro p e s m args below meth c s₁ B hml hv
  obtain ⟨rfl, hJ, hZ⟩ := hv
  have hx := B.exec
  have hb := B.bytes
  have hr := B.returns
  have hts := atoms_spec (ws := wsJ1_indexOfChar_4cfef) B.pre
  have hown : s.vm.findClass RJ1 = some m.cls := findClass_of_methodNamed B.named
  have hlocks := B.notSynchronized
  have hS : va_S (fun q => hz ≤ q) s.heap s.heap [] := va_S.rf
  have hN_7 : ∀ (x3_7 : Int32) (x4_7 : Int32) (n7 : Nat) (x5_7 : Int32) (ls : Array Slot), lv_has ls 6 [(0, .ref vk), (3, .int x3_7), (4, .int x4_7), (5, .int x5_7)] → ∀ r : Int32, lpN (fun q7 : (Int32) => B_J1_indexOfChar_4cfef_7 x3_7 x4_7 q7) n7 x5_7 = some r → (fun r => r = out) r → W p l e (headSpec wsJ1_indexOfChar_4cfef ({ frames := 0, cells := 0, slots := 0, locals := 0 })).room s m [.ref vk, .int p1, .int p2, .int p3].toArray below meth c s.heap [] 0 0 (MQ below (kZi out) [.ref vk, .int p1, .int p2, .int p3].toArray s 0 0 (fun _ => False)) (F0 m 7 ls []) := by
    intro x3_7 x4_7 n7
    induction n7 with
    | zero => intro x5_7 ls hl r hF hp; exact (lp_z hF).elim
    | succ n7 ih7 =>
      intro x5_7 ls hl r hF hp
      obtain ⟨rs, hF, hp⟩ := lpN_K (P := (fun r => r = out)) hF hp
      unfold B_J1_indexOfChar_4cfef_7 at hF
      refine lv_iload hx hb dJ1_indexOfChar_4cfef_7 (lv_at hl 3 rfl) ?_
      refine lv_iload_n hx hb dJ1_indexOfChar_4cfef_9 rfl (lv_at hl 1 rfl) ?_
      refine lv_icmp_ge (tgt := 31) hx hb dJ1_indexOfChar_4cfef_10 (by decide) (fun hc1 => ?_) (fun hc1 => ?_)
      · have hF := it_p hc1 hF
        obtain ⟨r, hF1, hr0⟩ := mp_s hF
        clear hF
        subst hr0
        have hF := hF1
        clear hF1
        have hp : (fun r => r = out) r := hp
        refine lv_iconst (v := (-1)) hx hb dJ1_indexOfChar_4cfef_31 (by decide) ?_
        exact W.iret hx hb hr (fun t ht hW => ⟨_, rfl, (Option.some.inj hF).trans hp, ht⟩) (fun q hq => by cases hq) dJ1_indexOfChar_4cfef_32
      · have hF := it_n hc1 hF
        refine lv_aload_n hx hb dJ1_indexOfChar_4cfef_13 rfl (lv_at hl 0 rfl) ?_
        refine lv_iload hx hb dJ1_indexOfChar_4cfef_14 (lv_at hl 3 rfl) ?_
        obtain ⟨hg2, hF⟩ := gd_s hF
        refine va_tb hx hb (hJ.1 0 (by decide)).2.2.2 hS (inB_in hg2) (v := .int (F_str x5_7.toNatClampNeg)) rfl dJ1_indexOfChar_4cfef_16 ?_
        refine lv_iload hx hb dJ1_indexOfChar_4cfef_17 (lv_at hl 2 rfl) ?_
        refine lv_icmp_ne (tgt := 25) hx hb dJ1_indexOfChar_4cfef_19 (by decide) (fun hc3 => ?_) (fun hc3 => ?_)
        · have hF := it_n hc3 hF
          refine lv_iinc (v := (x5_7 + 1)) (lv' := [(5, .int (x5_7 + 1)), (0, .ref vk), (3, .int x3_7), (4, .int x4_7)]) hx hb dJ1_indexOfChar_4cfef_25 hl (k := 3) rfl rfl (by decide) rfl (fun ls hl => ?_)
          refine lv_goto (tgt := 7) hx hb dJ1_indexOfChar_4cfef_28 (by decide) ?_
          have hF := Option.some.inj hF
          subst hF
          obtain ⟨r, hF, hp⟩ := hp
          exact ih7 (x5_7 + 1) ls (lv_sub hl [1, 2, 3, 0] rfl) r hF hp
        · have hF := it_p hc3 hF
          obtain ⟨r, hF1, hr0⟩ := mp_s hF
          clear hF
          subst hr0
          have hF := hF1
          clear hF1
          have hp : (fun r => r = out) r := hp
          refine lv_iload hx hb dJ1_indexOfChar_4cfef_22 (lv_at hl 3 rfl) ?_
          exact W.iret hx hb hr (fun t ht hW => ⟨_, rfl, (Option.some.inj hF).trans hp, ht⟩) (fun q hq => by cases hq) dJ1_indexOfChar_4cfef_24
  have hl := lv_entry ([.ref vk, .int p1, .int p2, .int p3]) (n := 6) (Nat.le_of_ble_eq_true rfl)
  rw [lg_entry_eq]
  generalize (lg_sl ([.ref vk, .int p1, .int p2, .int p3]) ++ List.replicate (6 - (lg_sl ([.ref vk, .int p1, .int p2, .int p3])).length) Slot.unset).toArray = ls at hl ⊢
  have hl : lv_has ls 6 [(0, .ref vk), (1, .int p1), (2, .int p2), (3, .int p3)] := hl
  obtain ⟨r, hF, hp⟩ : ∃ r, F_J1_indexOfChar_4cfef p1 p2 p3 = some r ∧ r = out := ⟨out, hF, rfl⟩
  unfold F_J1_indexOfChar_4cfef at hF
  refine lv_iload_n hx hb dJ1_indexOfChar_4cfef_0 rfl (lv_at hl 1 rfl) ?_
  refine lv_i2b (v := p1.toInt8.toInt32) hx hb dJ1_indexOfChar_4cfef_1 rfl ?_
  refine lv_istore (lv' := [(4, .int (p1.toInt8.toInt32)), (0, .ref vk), (1, .int p1), (2, .int p2), (3, .int p3)]) hx hb dJ1_indexOfChar_4cfef_2 hl (by decide) rfl (fun ls hl => ?_)
  refine lv_iload_n hx hb dJ1_indexOfChar_4cfef_4 rfl (lv_at hl 3 rfl) ?_
  refine lv_istore (lv' := [(5, .int p2), (4, .int (p1.toInt8.toInt32)), (0, .ref vk), (1, .int p1), (2, .int p2), (3, .int p3)]) hx hb dJ1_indexOfChar_4cfef_5 hl (by decide) rfl (fun ls hl => ?_)
  exact hN_7 p3 (p1.toInt8.toInt32) kFu p2 ls (lv_sub hl [2, 5, 1, 0] rfl) _ hF hp

def F_J1_indexOf_4cfef (p1 : Int32) (p2 : Int32) (p3 : Int32) : Option Int32 := if (F_J1_canEncode_9a6ad p1) = 0 then some (-1) else if (if p2 < (0 : Int32) then (0 : Int32) else p2) < (if (5 : Int32) < p3 then (5 : Int32) else p3) then (F_J1_indexOfChar_4cfef p1 (if p2 < (0 : Int32) then (0 : Int32) else p2) (if (5 : Int32) < p3 then (5 : Int32) else p3)).bind fun r4 => some r4 else some (-1)
set_option maxHeartbeats 4000000 in
set_option maxRecDepth 100000 in
theorem c_J1_indexOf_4cfef (l : Launch) (hz ak vk : Nat) (p1 : Int32) (p2 : Int32) (p3 : Int32) (out : Int32) (hF : F_J1_indexOf_4cfef p1 p2 p3 = some out) : Met l yJ1_indexOf_4cfef wsJ1_indexOf_4cfef ({ frames := 1, cells := 0, slots := 0, locals := 25 }) (kJ hz ak vk [.ref vk, .int p1, .int p2, .int p3]) (kZi out) 0 0 (fun _ => False) := by
  refine Met.ofW (cc := cJ1_indexOf_4cfef) (maxL := 4) (ret := (some .int)) (by decide) rfl ?_
  intro p e s m args below meth c s₁ B hml hv
  obtain ⟨rfl, hJ, hZ⟩ := hv
  have hx := B.exec
  have hb := B.bytes
  have hr := B.returns
  have hts := atoms_spec (ws := wsJ1_indexOf_4cfef) B.pre
  have hown : s.vm.findClass RJ1 = some m.cls := findClass_of_methodNamed B.named
  have hlocks := B.notSynchronized
  have hS : va_S (fun q => hz ≤ q) s.heap s.heap [] := va_S.rf
  have hl := lv_entry ([.ref vk, .int p1, .int p2, .int p3]) (n := 4) (Nat.le_of_ble_eq_true rfl)
  rw [lg_entry_eq]
  generalize (lg_sl ([.ref vk, .int p1, .int p2, .int p3]) ++ List.replicate (4 - (lg_sl ([.ref vk, .int p1, .int p2, .int p3])).length) Slot.unset).toArray = ls at hl ⊢
  have hl : lv_has ls 4 [(0, .ref vk), (1, .int p1), (2, .int p2), (3, .int p3)] := hl
  obtain ⟨r, hF, hp⟩ : ∃ r, F_J1_indexOf_4cfef p1 p2 p3 = some r ∧ r = out := ⟨out, hF, rfl⟩
  unfold F_J1_indexOf_4cfef at hF
  refine lv_iload_n hx hb dJ1_indexOf_4cfef_0 rfl (lv_at hl 1 rfl) ?_
  refine kS_b (va_runS (As := [.int p1]) (rest := []) ⟨hx, hb, hml, hown, hts⟩ (c_J1_canEncode_9a6ad l hz ak vk p1) (va_cwS 1 hts gJ1_indexOf_4cfef_J1_canEncode_9a6ad rfl rfl rfl pJ1_canEncode_9a6ad ⟨Nat.le_of_ble_eq_true rfl, Nat.le_of_ble_eq_true rfl⟩) (kJ.preS hJ hZ) rfl rfl hl.1 rfl (lv_room (Nat.le_of_ble_eq_true rfl)) dJ1_indexOf_4cfef_1 ⟨Nat.le_refl _, Nat.le_refl _⟩) (fun hz1 => ?_)
  refine lv_if_ne (tgt := 9) hx hb dJ1_indexOf_4cfef_4 (by decide) (fun hc2 => ?_) (fun hc2 => ?_)
  · have hF := it_n hc2 hF
    refine lv_iload_n hx hb dJ1_indexOf_4cfef_9 rfl (lv_at hl 2 rfl) ?_
    refine lv_iconst (v := 0) hx hb dJ1_indexOf_4cfef_10 (by decide) ?_
    refine va_mmax hx hb (hml.trans hl.1.symm) hown (hts (.methodLink RJ1 92 Lib.Math.max.name) (by decide +kernel)) (hts (.static Lib.Math.max.name) (by decide +kernel)) (hts (.initialized "java/lang/Math") (by decide +kernel)) (hts (.code Lib.Math.max.name Lib.Math.max.code 2 (some .int)) (by decide +kernel)) (Nat.le_of_ble_eq_true rfl) (Nat.le_of_ble_eq_true rfl) (Nat.le_refl _) (Nat.le_refl _) dJ1_indexOf_4cfef_11 ?_
    refine lv_istore_n (lv' := [(2, .int (if p2 < (0 : Int32) then (0 : Int32) else p2)), (0, .ref vk), (1, .int p1), (3, .int p3)]) hx hb dJ1_indexOf_4cfef_14 rfl hl (by decide) rfl (fun ls hl => ?_)
    refine lv_iload_n hx hb dJ1_indexOf_4cfef_15 rfl (lv_at hl 3 rfl) ?_
    refine lv_aload_n hx hb dJ1_indexOf_4cfef_16 rfl (lv_at hl 1 rfl) ?_
    refine va_tlen hx hb (hJ.1 0 (by decide)).2.2.2 hS (v := 5) rfl dJ1_indexOf_4cfef_17 ?_
    refine va_mmin hx hb (hml.trans hl.1.symm) hown (hts (.methodLink RJ1 38 Lib.Math.min.name) (by decide +kernel)) (hts (.static Lib.Math.min.name) (by decide +kernel)) (hts (.initialized "java/lang/Math") (by decide +kernel)) (hts (.code Lib.Math.min.name Lib.Math.min.code 2 (some .int)) (by decide +kernel)) (Nat.le_of_ble_eq_true rfl) (Nat.le_of_ble_eq_true rfl) (Nat.le_refl _) (Nat.le_refl _) dJ1_indexOf_4cfef_18 ?_
    refine lv_istore_n (lv' := [(3, .int (if (5 : Int32) < p3 then (5 : Int32) else p3)), (2, .int (if p2 < (0 : Int32) then (0 : Int32) else p2)), (0, .ref vk), (1, .int p1)]) hx hb dJ1_indexOf_4cfef_21 rfl hl (by decide) rfl (fun ls hl => ?_)
    refine lv_iload_n hx hb dJ1_indexOf_4cfef_22 rfl (lv_at hl 1 rfl) ?_
    refine lv_iload_n hx hb dJ1_indexOf_4cfef_23 rfl (lv_at hl 0 rfl) ?_
    refine lv_icmp_lt (tgt := 29) hx hb dJ1_indexOf_4cfef_24 (by decide) (fun hc3 => ?_) (fun hc3 => ?_)
    · have hF := it_p hc3 hF
      refine lv_aload_n hx hb dJ1_indexOf_4cfef_29 rfl (lv_at hl 2 rfl) ?_
      refine lv_iload_n hx hb dJ1_indexOf_4cfef_30 rfl (lv_at hl 3 rfl) ?_
      refine lv_iload_n hx hb dJ1_indexOf_4cfef_31 rfl (lv_at hl 1 rfl) ?_
      refine lv_iload_n hx hb dJ1_indexOf_4cfef_32 rfl (lv_at hl 0 rfl) ?_
      obtain ⟨r4, he4, hF⟩ := bd_s hF
      refine kS_i (va_runS (As := [.ref vk, .int p1, .int (if p2 < (0 : Int32) then (0 : Int32) else p2), .int (if (5 : Int32) < p3 then (5 : Int32) else p3)]) (rest := []) ⟨hx, hb, hml, hown, hts⟩ (c_J1_indexOfChar_4cfef l hz ak vk p1 (if p2 < (0 : Int32) then (0 : Int32) else p2) (if (5 : Int32) < p3 then (5 : Int32) else p3) r4 he4) (va_cwS 4 hts gJ1_indexOf_4cfef_J1_indexOfChar_4cfef rfl rfl rfl pJ1_indexOfChar_4cfef ⟨Nat.le_of_ble_eq_true rfl, Nat.le_of_ble_eq_true rfl⟩) (kJ.preS hJ hZ) rfl rfl hl.1 rfl (lv_room (Nat.le_of_ble_eq_true rfl)) dJ1_indexOf_4cfef_33 ⟨Nat.le_refl _, Nat.le_refl _⟩) ?_
      exact W.iret hx hb hr (fun t ht hW => ⟨_, rfl, (Option.some.inj hF).trans hp, ht⟩) (fun q hq => by cases hq) dJ1_indexOf_4cfef_36
    · have hF := it_n hc3 hF
      refine lv_iconst (v := (-1)) hx hb dJ1_indexOf_4cfef_27 (by decide) ?_
      exact W.iret hx hb hr (fun t ht hW => ⟨_, rfl, (Option.some.inj hF).trans hp, ht⟩) (fun q hq => by cases hq) dJ1_indexOf_4cfef_28
  · have hF := it_p hc2 hF
    refine lv_iconst (v := (-1)) hx hb dJ1_indexOf_4cfef_7 (by decide) ?_
    exact W.iret hx hb hr (fun t ht hW => ⟨_, rfl, (Option.some.inj hF).trans hp, ht⟩) (fun q hq => by cases hq) dJ1_indexOf_4cfef_8

def F_J0_indexOf_7cf53 (p1 : Int32) (p2 : Int32) : Option Int32 := (F_J1_indexOf_4cfef p1 p2 (F_J0_length_8abf5)).bind fun r3 => some r3
set_option maxHeartbeats 4000000 in
set_option maxRecDepth 100000 in
theorem c_J0_indexOf_7cf53 (l : Launch) (hz ak vk : Nat) (p1 : Int32) (p2 : Int32) (out : Int32) (hF : F_J0_indexOf_7cf53 p1 p2 = some out) : Met l yJ0_indexOf_7cf53 wsJ0_indexOf_7cf53 ({ frames := 2, cells := 0, slots := 0, locals := 48 }) (kJ hz ak vk [.ref ak, .int p1, .int p2]) (kZi out) 0 0 (fun _ => False) := by
  refine Met.ofW (cc := cJ0_indexOf_7cf53) (maxL := 3) (ret := (some .int)) (by decide) rfl ?_
  intro p e s m args below meth c s₁ B hml hv
  obtain ⟨rfl, hJ, hZ⟩ := hv
  have hx := B.exec
  have hb := B.bytes
  have hr := B.returns
  have hts := atoms_spec (ws := wsJ0_indexOf_7cf53) B.pre
  have hown : s.vm.findClass RJ0 = some m.cls := findClass_of_methodNamed B.named
  have hlocks := B.notSynchronized
  have hS : va_S (fun q => hz ≤ q) s.heap s.heap [] := va_S.rf
  have hf9 := hts (.fieldLink RJ0 9 "java/lang/String" "value" "[B") (by decide +kernel)
  have hl := lv_entry ([.ref ak, .int p1, .int p2]) (n := 3) (Nat.le_of_ble_eq_true rfl)
  rw [lg_entry_eq]
  generalize (lg_sl ([.ref ak, .int p1, .int p2]) ++ List.replicate (3 - (lg_sl ([.ref ak, .int p1, .int p2])).length) Slot.unset).toArray = ls at hl ⊢
  have hl : lv_has ls 3 [(0, .ref ak), (1, .int p1), (2, .int p2)] := hl
  obtain ⟨r, hF, hp⟩ : ∃ r, F_J0_indexOf_7cf53 p1 p2 = some r ∧ r = out := ⟨out, hF, rfl⟩
  unfold F_J0_indexOf_7cf53 at hF
  refine lv_aload_n hx hb dJ0_indexOf_7cf53_0 rfl (lv_at hl 0 rfl) ?_
  refine kS_b (va_runV (As := []) (rest := []) ⟨hx, hb, hml, hown, hts⟩ (c_J0_isLatin1_aae02 l hz ak vk ) (cwV 0 hts gJ0_indexOf_7cf53_J0_isLatin1_aae02 rfl rfl rfl ⟨rfl, pJ0_isLatin1_aae02⟩ ⟨Nat.le_of_ble_eq_true rfl, Nat.le_of_ble_eq_true rfl⟩) (kJ.preV (vk_recv hJ (i := 0) (by decide) hS) hJ hZ) rfl rfl hl.1 rfl (lv_room (Nat.le_of_ble_eq_true rfl)) dJ0_indexOf_7cf53_1 ⟨Nat.le_refl _, Nat.le_refl _⟩) (fun hz1 => ?_)
  refine lv_if_eq (tgt := 23) hx hb dJ0_indexOf_7cf53_4 (by decide) (fun hc2 => ?_) (fun hc2 => ?_)
  · exact absurd hc2 (by decide)
  · refine lv_aload_n hx hb dJ0_indexOf_7cf53_7 rfl (lv_at hl 0 rfl) ?_
    refine vk_getf hx hb (hJ.1 0 (by decide)).2.2.1 hS hown hf9 (fun _ h9 => h9) dJ0_indexOf_7cf53_8 ?_
    refine lv_iload_n hx hb dJ0_indexOf_7cf53_11 rfl (lv_at hl 1 rfl) ?_
    refine lv_iload_n hx hb dJ0_indexOf_7cf53_12 rfl (lv_at hl 2 rfl) ?_
    refine lv_aload_n hx hb dJ0_indexOf_7cf53_13 rfl (lv_at hl 0 rfl) ?_
    refine kS_i (va_runV (As := []) (rest := [.int p2, .int p1, .ref vk]) ⟨hx, hb, hml, hown, hts⟩ (c_J0_length_8abf5 l hz ak vk ) (cwV 0 hts gJ0_indexOf_7cf53_J0_length_8abf5 rfl rfl rfl ⟨rfl, pJ0_length_8abf5⟩ ⟨Nat.le_of_ble_eq_true rfl, Nat.le_of_ble_eq_true rfl⟩) (kJ.preV (vk_recv hJ (i := 0) (by decide) hS) hJ hZ) rfl rfl hl.1 rfl (lv_room (Nat.le_of_ble_eq_true rfl)) dJ0_indexOf_7cf53_14 ⟨Nat.le_refl _, Nat.le_refl _⟩) ?_
    obtain ⟨r3, he3, hF⟩ := bd_s hF
    refine kS_i (va_runS (As := [.ref vk, .int p1, .int p2, .int (F_J0_length_8abf5)]) (rest := []) ⟨hx, hb, hml, hown, hts⟩ (c_J1_indexOf_4cfef l hz ak vk p1 p2 (F_J0_length_8abf5) r3 he3) (va_cwS 4 hts gJ0_indexOf_7cf53_J1_indexOf_4cfef rfl rfl rfl pJ1_indexOf_4cfef ⟨Nat.le_of_ble_eq_true rfl, Nat.le_of_ble_eq_true rfl⟩) (kJ.preS hJ hZ) rfl rfl hl.1 rfl (lv_room (Nat.le_of_ble_eq_true rfl)) dJ0_indexOf_7cf53_17 ⟨Nat.le_refl _, Nat.le_refl _⟩) ?_
    refine lv_goto (tgt := 36) hx hb dJ0_indexOf_7cf53_20 (by decide) ?_
    exact W.iret hx hb hr (fun t ht hW => ⟨_, rfl, (Option.some.inj hF).trans hp, ht⟩) (fun q hq => by cases hq) dJ0_indexOf_7cf53_36

def F_J0_indexOf_0f7a4 (p1 : Int32) : Option Int32 := (F_J0_indexOf_7cf53 p1 0).bind fun r1 => some r1
set_option maxHeartbeats 4000000 in
set_option maxRecDepth 100000 in
theorem c_J0_indexOf_0f7a4 (l : Launch) (hz ak vk : Nat) (p1 : Int32) (out : Int32) (hF : F_J0_indexOf_0f7a4 p1 = some out) : Met l yJ0_indexOf_0f7a4 wsJ0_indexOf_0f7a4 ({ frames := 3, cells := 0, slots := 0, locals := 70 }) (kJ hz ak vk [.ref ak, .int p1]) (kZi out) 0 0 (fun _ => False) := by
  refine Met.ofW (cc := cJ0_indexOf_0f7a4) (maxL := 2) (ret := (some .int)) (by decide) rfl ?_
  intro p e s m args below meth c s₁ B hml hv
  obtain ⟨rfl, hJ, hZ⟩ := hv
  have hx := B.exec
  have hb := B.bytes
  have hr := B.returns
  have hts := atoms_spec (ws := wsJ0_indexOf_0f7a4) B.pre
  have hown : s.vm.findClass RJ0 = some m.cls := findClass_of_methodNamed B.named
  have hlocks := B.notSynchronized
  have hS : va_S (fun q => hz ≤ q) s.heap s.heap [] := va_S.rf
  have hl := lv_entry ([.ref ak, .int p1]) (n := 2) (Nat.le_of_ble_eq_true rfl)
  rw [lg_entry_eq]
  generalize (lg_sl ([.ref ak, .int p1]) ++ List.replicate (2 - (lg_sl ([.ref ak, .int p1])).length) Slot.unset).toArray = ls at hl ⊢
  have hl : lv_has ls 2 [(0, .ref ak), (1, .int p1)] := hl
  obtain ⟨r, hF, hp⟩ : ∃ r, F_J0_indexOf_0f7a4 p1 = some r ∧ r = out := ⟨out, hF, rfl⟩
  unfold F_J0_indexOf_0f7a4 at hF
  refine lv_aload_n hx hb dJ0_indexOf_0f7a4_0 rfl (lv_at hl 0 rfl) ?_
  refine lv_iload_n hx hb dJ0_indexOf_0f7a4_1 rfl (lv_at hl 1 rfl) ?_
  refine lv_iconst (v := 0) hx hb dJ0_indexOf_0f7a4_2 (by decide) ?_
  obtain ⟨r1, he1, hF⟩ := bd_s hF
  refine kS_i (va_runV (As := [.int p1, .int 0]) (rest := []) ⟨hx, hb, hml, hown, hts⟩ (c_J0_indexOf_7cf53 l hz ak vk p1 0 r1 he1) (cwV 2 hts gJ0_indexOf_0f7a4_J0_indexOf_7cf53 rfl rfl rfl ⟨rfl, pJ0_indexOf_7cf53⟩ ⟨Nat.le_of_ble_eq_true rfl, Nat.le_of_ble_eq_true rfl⟩) (kJ.preV (vk_recv hJ (i := 0) (by decide) hS) hJ hZ) rfl rfl hl.1 rfl (lv_room (Nat.le_of_ble_eq_true rfl)) dJ0_indexOf_0f7a4_3 ⟨Nat.le_refl _, Nat.le_refl _⟩) ?_
  exact W.iret hx hb hr (fun t ht hW => ⟨_, rfl, (Option.some.inj hF).trans hp, ht⟩) (fun q hq => by cases hq) dJ0_indexOf_0f7a4_6
