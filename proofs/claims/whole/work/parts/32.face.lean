/-! ===== the class, by program (tools/gen.py) ===== -/
def F_X11_tellAbout (f0 : Nat → Int32) (g0 : Nat → Int64) (a0 : Nat → Nat → Int32) (p1 : Int32) (p2 : Int32) : Option Int32 := if p2 = 0 then some (F_X9_kindOf f0 g0 a0 p1) else (if p2 = 1 then some (F_at 5 (a0 14) p1) else (if p2 = 2 then some (F_at 5 (a0 15) p1) else (if p2 = 3 then some (F_X11_roomIn (f0 6) p1) else (if p2 = 4 then some (F_at 5 (a0 16) p1) else (if p2 = 5 then (F_X9_companyIn f0 g0 a0 (f0 6) p1).bind fun r7 => if (F_X9_canWrite f0 g0 a0 p1 r7) = 0 then some 0 else some 1 else (if p2 = 6 then (F_X9_companyIn f0 g0 a0 (f0 6) p1).bind fun r11 => some r11 else (if p2 = 7 then (F_X9_lettersOfOthers f0 g0 a0 p1).bind fun r13 => some r13 else ((F_X9_wants f0 g0 a0 p1).bind fun r14 => some r14))))))))
set_option maxHeartbeats 4000000 in
set_option maxRecDepth 100000 in
theorem c_X11_tellAbout (l : Launch) (hz : Nat) (D : va_G) (ad : Nat → Nat) (ck : Nat → ClassId) (f0 : Nat → Int32) (g0 : Nat → Int64) (a0 : Nat → Nat → Int32) (p1 : Int32) (p2 : Int32) (out : Int32) (hF : F_X11_tellAbout f0 g0 a0 p1 p2 = some out) : Met l yX11_tellAbout wsX11_tellAbout ({ frames := 5, cells := 0, slots := 0, locals := 117 }) (kR hz D vwCl (tX ck) (wX ad ck f0 g0 a0) [.ref (ad 0), .int p1, .int p2]) (kZi out) 0 0 (fun _ => False) := by
  refine Met.ofW (cc := cX11_tellAbout) (maxL := 4) (ret := (some .int)) (by decide) rfl ?_
  intro p e s m args below meth c s₁ B hml hv
  obtain ⟨rfl, hP, hE⟩ := hv
  have hx := B.exec
  have hb := B.bytes
  have hr := B.returns
  have hts := atoms_spec (ws := wsX11_tellAbout) B.pre
  have hown : s.vm.findClass RX11 = some m.cls := findClass_of_methodNamed B.named
  have hlocks := B.notSynchronized
  have hK := hE.1
  have hiX11 : ∀ w ∈ u_ws RX11 TX11 10, w ∈ wsX11_tellAbout := by decide +kernel
  have hiX3 : ∀ w ∈ u_ws RX3 TX3 10, w ∈ wsX11_tellAbout := by decide +kernel
  have hiX9 : ∀ w ∈ u_ws RX9 TX9 4, w ∈ wsX11_tellAbout := by decide +kernel
  have hf19 := hts (.fieldLink RX11 19 "SpeltByFriends" "here" "LSpeltByFriends$Town;") (by decide +kernel)
  have hf92 := hts (.fieldLink RX11 92 "SpeltByFriends$Town" "ledger" "LSpeltByFriends$Ledger;") (by decide +kernel)
  have hf95 := hts (.fieldLink RX11 95 "SpeltByFriends$Ledger" "rooms" "I") (by decide +kernel)
  have hf108 := hts (.fieldLink RX11 108 "SpeltByFriends$Ledger" "firstHolder" "[I") (by decide +kernel)
  have hf112 := hts (.fieldLink RX11 112 "SpeltByFriends$Ledger" "lastHolder" "[I") (by decide +kernel)
  have hf126 := hts (.fieldLink RX11 126 "SpeltByFriends$Ledger" "foes" "[I") (by decide +kernel)
  have hl := lv_entry ([.ref (ad 0), .int p1, .int p2]) (n := 4) (Nat.le_of_ble_eq_true rfl)
  rw [lg_entry_eq]
  generalize (lg_sl ([.ref (ad 0), .int p1, .int p2]) ++ List.replicate (4 - (lg_sl ([.ref (ad 0), .int p1, .int p2])).length) Slot.unset).toArray = ls at hl ⊢
  have hl : lv_has ls 4 [(0, .ref (ad 0)), (1, .int p1), (2, .int p2)] := hl
  obtain ⟨r, hF, hp⟩ : ∃ r, F_X11_tellAbout f0 g0 a0 p1 p2 = some r ∧ r = out := ⟨out, hF, rfl⟩
  unfold F_X11_tellAbout at hF
  refine lv_aload_n hx hb dX11_tellAbout_0 rfl (lv_at hl 0 rfl) ?_
  refine va_get (D := D) (ci := 11) (v := .ref (ad 2)) (C := RX11) (T := TX11) (N := 10) hx hb hts hiX11 hown hK hP 0 rfl rfl 1 (by decide) hf19 (fun _ h9 => h9) rfl dX11_tellAbout_1 ?_
  refine va_get (D := D) (ci := 9) (v := .ref (ad 3)) (C := RX9) (T := TX9) (N := 4) hx hb hts hiX9 hown hK hP 2 rfl rfl 0 (by decide) hf92 (fun _ h9 => h9) rfl dX11_tellAbout_4 ?_
  refine lv_astore_n (lv' := [(3, .ref (ad 3)), (0, .ref (ad 0)), (1, .int p1), (2, .int p2)]) hx hb dX11_tellAbout_7 rfl hl (by decide) rfl (fun ls hl => ?_)
  refine lv_iload_n hx hb dX11_tellAbout_8 rfl (lv_at hl 3 rfl) ?_
  by_cases hc1 : p2 = 0
  · have hF := it_p hc1 hF
    refine lv_tableIn (tgt := 56) (off := 47) hx hb dX11_tellAbout_9 (by rw [hc1]; decide) (by rw [hc1]; decide) (by rw [hc1]; rfl) (by decide) ?_
    refine lv_aload_n hx hb dX11_tellAbout_56 rfl (lv_at hl 1 rfl) ?_
    refine va_get (D := D) (ci := 11) (v := .ref (ad 2)) (C := RX11) (T := TX11) (N := 10) hx hb hts hiX11 hown hK hP 0 rfl rfl 1 (by decide) hf19 (fun _ h9 => h9) rfl dX11_tellAbout_57 ?_
    refine lv_iload_n hx hb dX11_tellAbout_60 rfl (lv_at hl 2 rfl) ?_
    refine kS_i (va_runV (As := [.int p1]) (rest := []) ⟨hx, hb, hml, hown, hts⟩ (c_X9_kindOf l hz D ad ck f0 g0 a0 p1) (cwV 1 hts gX11_tellAbout_X9_kindOf rfl rfl rfl ⟨rfl, pX9_kindOf⟩ ⟨Nat.le_of_ble_eq_true rfl, Nat.le_of_ble_eq_true rfl⟩) (kR.preV (va_recv hK hP (ci := 9) (q0 := 2) rfl rfl) hP hE) rfl rfl hl.1 rfl (lv_room (Nat.le_of_ble_eq_true rfl)) dX11_tellAbout_61 ⟨Nat.le_refl _, Nat.le_refl _⟩) ?_
    exact W.iret hx hb hr (fun t ht hW => ⟨_, rfl, (Option.some.inj hF).trans hp, ht⟩) (fun q hq => by cases hq) dX11_tellAbout_64
  have hF := it_n hc1 hF
  by_cases hc2 : p2 = 1
  · have hF := it_p hc2 hF
    refine lv_tableIn (tgt := 65) (off := 56) hx hb dX11_tellAbout_9 (by rw [hc2]; decide) (by rw [hc2]; decide) (by rw [hc2]; rfl) (by decide) ?_
    refine lv_aload_n hx hb dX11_tellAbout_65 rfl (lv_at hl 0 rfl) ?_
    refine va_get (D := D) (ci := 3) (v := .ref (ad 14)) (C := RX3) (T := TX3) (N := 10) hx hb hts hiX3 hown hK hP 3 rfl rfl 0 (by decide) hf108 (fun _ h9 => h9) rfl dX11_tellAbout_66 ?_
    refine lv_iload_n hx hb dX11_tellAbout_69 rfl (lv_at hl 2 rfl) ?_
    refine kS_i (va_runS (As := [.ref (ad 14), .int p1]) (rest := []) ⟨hx, hb, hml, hown, hts⟩ (c_X11_at l hz D (tX ck) (wX ad ck f0 g0 a0) 14 1 rfl rfl (by decide) p1) (va_cwS 2 hts gX11_tellAbout_X11_at rfl rfl rfl pX11_at ⟨Nat.le_of_ble_eq_true rfl, Nat.le_of_ble_eq_true rfl⟩) (kR.preS hP hE) rfl rfl hl.1 rfl (lv_room (Nat.le_of_ble_eq_true rfl)) dX11_tellAbout_70 ⟨Nat.le_refl _, Nat.le_refl _⟩) ?_
    exact W.iret hx hb hr (fun t ht hW => ⟨_, rfl, (Option.some.inj hF).trans hp, ht⟩) (fun q hq => by cases hq) dX11_tellAbout_73
  have hF := it_n hc2 hF
  by_cases hc3 : p2 = 2
  · have hF := it_p hc3 hF
    refine lv_tableIn (tgt := 74) (off := 65) hx hb dX11_tellAbout_9 (by rw [hc3]; decide) (by rw [hc3]; decide) (by rw [hc3]; rfl) (by decide) ?_
    refine lv_aload_n hx hb dX11_tellAbout_74 rfl (lv_at hl 0 rfl) ?_
    refine va_get (D := D) (ci := 3) (v := .ref (ad 15)) (C := RX3) (T := TX3) (N := 10) hx hb hts hiX3 hown hK hP 3 rfl rfl 1 (by decide) hf112 (fun _ h9 => h9) rfl dX11_tellAbout_75 ?_
    refine lv_iload_n hx hb dX11_tellAbout_78 rfl (lv_at hl 2 rfl) ?_
    refine kS_i (va_runS (As := [.ref (ad 15), .int p1]) (rest := []) ⟨hx, hb, hml, hown, hts⟩ (c_X11_at l hz D (tX ck) (wX ad ck f0 g0 a0) 15 2 rfl rfl (by decide) p1) (va_cwS 2 hts gX11_tellAbout_X11_at rfl rfl rfl pX11_at ⟨Nat.le_of_ble_eq_true rfl, Nat.le_of_ble_eq_true rfl⟩) (kR.preS hP hE) rfl rfl hl.1 rfl (lv_room (Nat.le_of_ble_eq_true rfl)) dX11_tellAbout_79 ⟨Nat.le_refl _, Nat.le_refl _⟩) ?_
    exact W.iret hx hb hr (fun t ht hW => ⟨_, rfl, (Option.some.inj hF).trans hp, ht⟩) (fun q hq => by cases hq) dX11_tellAbout_82
  have hF := it_n hc3 hF
  by_cases hc4 : p2 = 3
  · have hF := it_p hc4 hF
    refine lv_tableIn (tgt := 83) (off := 74) hx hb dX11_tellAbout_9 (by rw [hc4]; decide) (by rw [hc4]; decide) (by rw [hc4]; rfl) (by decide) ?_
    refine lv_aload_n hx hb dX11_tellAbout_83 rfl (lv_at hl 0 rfl) ?_
    refine va_get (D := D) (ci := 3) (v := .int (f0 6)) (C := RX3) (T := TX3) (N := 10) hx hb hts hiX3 hown hK hP 3 rfl rfl 6 (by decide) hf95 (fun _ h9 => h9) rfl dX11_tellAbout_84 ?_
    refine lv_iload_n hx hb dX11_tellAbout_87 rfl (lv_at hl 2 rfl) ?_
    refine kS_i (va_runS (As := [.int (f0 6), .int p1]) (rest := []) ⟨hx, hb, hml, hown, hts⟩ (c_X11_roomIn l hz D (tX ck) (f0 6) p1) (va_cwS 2 hts gX11_tellAbout_X11_roomIn rfl rfl rfl pX11_roomIn ⟨Nat.le_of_ble_eq_true rfl, Nat.le_of_ble_eq_true rfl⟩) (kR.preS kP_nil hE) rfl rfl hl.1 rfl (lv_room (Nat.le_of_ble_eq_true rfl)) dX11_tellAbout_88 ⟨Nat.le_refl _, Nat.le_refl _⟩) ?_
    exact W.iret hx hb hr (fun t ht hW => ⟨_, rfl, (Option.some.inj hF).trans hp, ht⟩) (fun q hq => by cases hq) dX11_tellAbout_91
  have hF := it_n hc4 hF
  by_cases hc5 : p2 = 4
  · have hF := it_p hc5 hF
    refine lv_tableIn (tgt := 92) (off := 83) hx hb dX11_tellAbout_9 (by rw [hc5]; decide) (by rw [hc5]; decide) (by rw [hc5]; rfl) (by decide) ?_
    refine lv_aload_n hx hb dX11_tellAbout_92 rfl (lv_at hl 0 rfl) ?_
    refine va_get (D := D) (ci := 3) (v := .ref (ad 16)) (C := RX3) (T := TX3) (N := 10) hx hb hts hiX3 hown hK hP 3 rfl rfl 2 (by decide) hf126 (fun _ h9 => h9) rfl dX11_tellAbout_93 ?_
    refine lv_iload_n hx hb dX11_tellAbout_96 rfl (lv_at hl 2 rfl) ?_
    refine kS_i (va_runS (As := [.ref (ad 16), .int p1]) (rest := []) ⟨hx, hb, hml, hown, hts⟩ (c_X11_at l hz D (tX ck) (wX ad ck f0 g0 a0) 16 3 rfl rfl (by decide) p1) (va_cwS 2 hts gX11_tellAbout_X11_at rfl rfl rfl pX11_at ⟨Nat.le_of_ble_eq_true rfl, Nat.le_of_ble_eq_true rfl⟩) (kR.preS hP hE) rfl rfl hl.1 rfl (lv_room (Nat.le_of_ble_eq_true rfl)) dX11_tellAbout_97 ⟨Nat.le_refl _, Nat.le_refl _⟩) ?_
    exact W.iret hx hb hr (fun t ht hW => ⟨_, rfl, (Option.some.inj hF).trans hp, ht⟩) (fun q hq => by cases hq) dX11_tellAbout_100
  have hF := it_n hc5 hF
  by_cases hc6 : p2 = 5
  · have hF := it_p hc6 hF
    refine lv_tableIn (tgt := 101) (off := 92) hx hb dX11_tellAbout_9 (by rw [hc6]; decide) (by rw [hc6]; decide) (by rw [hc6]; rfl) (by decide) ?_
    refine lv_aload_n hx hb dX11_tellAbout_101 rfl (lv_at hl 1 rfl) ?_
    refine va_get (D := D) (ci := 11) (v := .ref (ad 2)) (C := RX11) (T := TX11) (N := 10) hx hb hts hiX11 hown hK hP 0 rfl rfl 1 (by decide) hf19 (fun _ h9 => h9) rfl dX11_tellAbout_102 ?_
    refine lv_iload_n hx hb dX11_tellAbout_105 rfl (lv_at hl 2 rfl) ?_
    refine lv_aload_n hx hb dX11_tellAbout_106 rfl (lv_at hl 1 rfl) ?_
    refine va_get (D := D) (ci := 11) (v := .ref (ad 2)) (C := RX11) (T := TX11) (N := 10) hx hb hts hiX11 hown hK hP 0 rfl rfl 1 (by decide) hf19 (fun _ h9 => h9) rfl dX11_tellAbout_107 ?_
    refine lv_aload_n hx hb dX11_tellAbout_110 rfl (lv_at hl 0 rfl) ?_
    refine va_get (D := D) (ci := 3) (v := .int (f0 6)) (C := RX3) (T := TX3) (N := 10) hx hb hts hiX3 hown hK hP 3 rfl rfl 6 (by decide) hf95 (fun _ h9 => h9) rfl dX11_tellAbout_111 ?_
    refine lv_iload_n hx hb dX11_tellAbout_114 rfl (lv_at hl 2 rfl) ?_
    obtain ⟨r7, he7, hF⟩ := bd_s hF
    refine kS_i (va_runV (As := [.int (f0 6), .int p1]) (rest := [.int p1, .ref (ad 2)]) ⟨hx, hb, hml, hown, hts⟩ (c_X9_companyIn l hz D ad ck f0 g0 a0 (f0 6) p1 r7 he7) (cwV 2 hts gX11_tellAbout_X9_companyIn rfl rfl rfl ⟨rfl, pX9_companyIn⟩ ⟨Nat.le_of_ble_eq_true rfl, Nat.le_of_ble_eq_true rfl⟩) (kR.preV (va_recv hK hP (ci := 9) (q0 := 2) rfl rfl) hP hE) rfl rfl hl.1 rfl (lv_room (Nat.le_of_ble_eq_true rfl)) dX11_tellAbout_115 ⟨Nat.le_refl _, Nat.le_refl _⟩) ?_
    refine kS_b (va_runV (As := [.int p1, .int r7]) (rest := []) ⟨hx, hb, hml, hown, hts⟩ (c_X9_canWrite l hz D ad ck f0 g0 a0 p1 r7) (cwV 2 hts gX11_tellAbout_X9_canWrite rfl rfl rfl ⟨rfl, pX9_canWrite⟩ ⟨Nat.le_of_ble_eq_true rfl, Nat.le_of_ble_eq_true rfl⟩) (kR.preV (va_recv hK hP (ci := 9) (q0 := 2) rfl rfl) hP hE) rfl rfl hl.1 rfl (lv_room (Nat.le_of_ble_eq_true rfl)) dX11_tellAbout_118 ⟨Nat.le_refl _, Nat.le_refl _⟩) (fun hz8 => ?_)
    refine lv_if_eq (tgt := 128) hx hb dX11_tellAbout_121 (by decide) (fun hc9 => ?_) (fun hc9 => ?_)
    · have hF := it_p hc9 hF
      refine lv_iconst (v := 0) hx hb dX11_tellAbout_128 (by decide) ?_
      exact W.iret hx hb hr (fun t ht hW => ⟨_, rfl, (Option.some.inj hF).trans hp, ht⟩) (fun q hq => by cases hq) dX11_tellAbout_129
    · have hF := it_n hc9 hF
      refine lv_iconst (v := 1) hx hb dX11_tellAbout_124 (by decide) ?_
      refine lv_goto (tgt := 129) hx hb dX11_tellAbout_125 (by decide) ?_
      exact W.iret hx hb hr (fun t ht hW => ⟨_, rfl, (Option.some.inj hF).trans hp, ht⟩) (fun q hq => by cases hq) dX11_tellAbout_129
  have hF := it_n hc6 hF
  by_cases hc10 : p2 = 6
  · have hF := it_p hc10 hF
    refine lv_tableIn (tgt := 130) (off := 121) hx hb dX11_tellAbout_9 (by rw [hc10]; decide) (by rw [hc10]; decide) (by rw [hc10]; rfl) (by decide) ?_
    refine lv_aload_n hx hb dX11_tellAbout_130 rfl (lv_at hl 1 rfl) ?_
    refine va_get (D := D) (ci := 11) (v := .ref (ad 2)) (C := RX11) (T := TX11) (N := 10) hx hb hts hiX11 hown hK hP 0 rfl rfl 1 (by decide) hf19 (fun _ h9 => h9) rfl dX11_tellAbout_131 ?_
    refine lv_aload_n hx hb dX11_tellAbout_134 rfl (lv_at hl 0 rfl) ?_
    refine va_get (D := D) (ci := 3) (v := .int (f0 6)) (C := RX3) (T := TX3) (N := 10) hx hb hts hiX3 hown hK hP 3 rfl rfl 6 (by decide) hf95 (fun _ h9 => h9) rfl dX11_tellAbout_135 ?_
    refine lv_iload_n hx hb dX11_tellAbout_138 rfl (lv_at hl 2 rfl) ?_
    obtain ⟨r11, he11, hF⟩ := bd_s hF
    refine kS_i (va_runV (As := [.int (f0 6), .int p1]) (rest := []) ⟨hx, hb, hml, hown, hts⟩ (c_X9_companyIn l hz D ad ck f0 g0 a0 (f0 6) p1 r11 he11) (cwV 2 hts gX11_tellAbout_X9_companyIn rfl rfl rfl ⟨rfl, pX9_companyIn⟩ ⟨Nat.le_of_ble_eq_true rfl, Nat.le_of_ble_eq_true rfl⟩) (kR.preV (va_recv hK hP (ci := 9) (q0 := 2) rfl rfl) hP hE) rfl rfl hl.1 rfl (lv_room (Nat.le_of_ble_eq_true rfl)) dX11_tellAbout_139 ⟨Nat.le_refl _, Nat.le_refl _⟩) ?_
    exact W.iret hx hb hr (fun t ht hW => ⟨_, rfl, (Option.some.inj hF).trans hp, ht⟩) (fun q hq => by cases hq) dX11_tellAbout_142
  have hF := it_n hc10 hF
  by_cases hc12 : p2 = 7
  · have hF := it_p hc12 hF
    refine lv_tableIn (tgt := 143) (off := 134) hx hb dX11_tellAbout_9 (by rw [hc12]; decide) (by rw [hc12]; decide) (by rw [hc12]; rfl) (by decide) ?_
    refine lv_aload_n hx hb dX11_tellAbout_143 rfl (lv_at hl 1 rfl) ?_
    refine va_get (D := D) (ci := 11) (v := .ref (ad 2)) (C := RX11) (T := TX11) (N := 10) hx hb hts hiX11 hown hK hP 0 rfl rfl 1 (by decide) hf19 (fun _ h9 => h9) rfl dX11_tellAbout_144 ?_
    refine lv_iload_n hx hb dX11_tellAbout_147 rfl (lv_at hl 2 rfl) ?_
    obtain ⟨r13, he13, hF⟩ := bd_s hF
    refine kS_i (va_runV (As := [.int p1]) (rest := []) ⟨hx, hb, hml, hown, hts⟩ (c_X9_lettersOfOthers l hz D ad ck f0 g0 a0 p1 r13 he13) (cwV 1 hts gX11_tellAbout_X9_lettersOfOthers rfl rfl rfl ⟨rfl, pX9_lettersOfOthers⟩ ⟨Nat.le_of_ble_eq_true rfl, Nat.le_of_ble_eq_true rfl⟩) (kR.preV (va_recv hK hP (ci := 9) (q0 := 2) rfl rfl) hP hE) rfl rfl hl.1 rfl (lv_room (Nat.le_of_ble_eq_true rfl)) dX11_tellAbout_148 ⟨Nat.le_refl _, Nat.le_refl _⟩) ?_
    exact W.iret hx hb hr (fun t ht hW => ⟨_, rfl, (Option.some.inj hF).trans hp, ht⟩) (fun q hq => by cases hq) dX11_tellAbout_151
  have hF := it_n hc12 hF
  refine lv_tableOut (tgt := 152) hx hb dX11_tellAbout_9 (by have z0 := lv_neT (a := 0) hc1 (by decide); have z1 := lv_neT (a := 1) hc2 (by decide); have z2 := lv_neT (a := 2) hc3 (by decide); have z3 := lv_neT (a := 3) hc4 (by decide); have z4 := lv_neT (a := 4) hc5 (by decide); have z5 := lv_neT (a := 5) hc6 (by decide); have z6 := lv_neT (a := 6) hc10 (by decide); have z7 := lv_neT (a := 7) hc12 (by decide); omega) (by decide) ?_
  refine lv_aload_n hx hb dX11_tellAbout_152 rfl (lv_at hl 1 rfl) ?_
  refine va_get (D := D) (ci := 11) (v := .ref (ad 2)) (C := RX11) (T := TX11) (N := 10) hx hb hts hiX11 hown hK hP 0 rfl rfl 1 (by decide) hf19 (fun _ h9 => h9) rfl dX11_tellAbout_153 ?_
  refine lv_iload_n hx hb dX11_tellAbout_156 rfl (lv_at hl 2 rfl) ?_
  obtain ⟨r14, he14, hF⟩ := bd_s hF
  refine kS_i (va_runV (As := [.int p1]) (rest := []) ⟨hx, hb, hml, hown, hts⟩ (c_X9_wants l hz D ad ck f0 g0 a0 p1 r14 he14) (cwV 1 hts gX11_tellAbout_X9_wants rfl rfl rfl ⟨rfl, pX9_wants⟩ ⟨Nat.le_of_ble_eq_true rfl, Nat.le_of_ble_eq_true rfl⟩) (kR.preV (va_recv hK hP (ci := 9) (q0 := 2) rfl rfl) hP hE) rfl rfl hl.1 rfl (lv_room (Nat.le_of_ble_eq_true rfl)) dX11_tellAbout_157 ⟨Nat.le_refl _, Nat.le_refl _⟩) ?_
  exact W.iret hx hb hr (fun t ht hW => ⟨_, rfl, (Option.some.inj hF).trans hp, ht⟩) (fun q hq => by cases hq) dX11_tellAbout_160

def F_X11_about (f0 : Nat → Int32) (g0 : Nat → Int64) (a0 : Nat → Nat → Int32) (p1 : Int32) (p2 : Int32) : Option Int32 := if (F_X9_has f0 g0 a0 p1) = 0 then some (-101) else if p2 < 0 then some (-102) else if p2 < 9 then (F_X11_tellAbout f0 g0 a0 p1 p2).bind fun r5 => some r5 else some (-102)
set_option maxHeartbeats 4000000 in
set_option maxRecDepth 100000 in
theorem c_X11_about (l : Launch) (hz : Nat) (D : va_G) (ad : Nat → Nat) (ck : Nat → ClassId) (f0 : Nat → Int32) (g0 : Nat → Int64) (a0 : Nat → Nat → Int32) (p1 : Int32) (p2 : Int32) (out : Int32) (hF : F_X11_about f0 g0 a0 p1 p2 = some out) : Met l yX11_about wsX11_about ({ frames := 6, cells := 0, slots := 0, locals := 140 }) (kR hz D vwCl (tX ck) (wX ad ck f0 g0 a0) [.ref (ad 0), .int p1, .int p2]) (kZi out) 0 0 (fun _ => False) := by
  refine Met.ofW (cc := cX11_about) (maxL := 3) (ret := (some .int)) (by decide) rfl ?_
  intro p e s m args below meth c s₁ B hml hv
  obtain ⟨rfl, hP, hE⟩ := hv
  have hx := B.exec
  have hb := B.bytes
  have hr := B.returns
  have hts := atoms_spec (ws := wsX11_about) B.pre
  have hown : s.vm.findClass RX11 = some m.cls := findClass_of_methodNamed B.named
  have hlocks := B.notSynchronized
  have hK := hE.1
  have hiX11 : ∀ w ∈ u_ws RX11 TX11 10, w ∈ wsX11_about := by decide +kernel
  have hf19 := hts (.fieldLink RX11 19 "SpeltByFriends" "here" "LSpeltByFriends$Town;") (by decide +kernel)
  have hl := lv_entry ([.ref (ad 0), .int p1, .int p2]) (n := 3) (Nat.le_of_ble_eq_true rfl)
  rw [lg_entry_eq]
  generalize (lg_sl ([.ref (ad 0), .int p1, .int p2]) ++ List.replicate (3 - (lg_sl ([.ref (ad 0), .int p1, .int p2])).length) Slot.unset).toArray = ls at hl ⊢
  have hl : lv_has ls 3 [(0, .ref (ad 0)), (1, .int p1), (2, .int p2)] := hl
  obtain ⟨r, hF, hp⟩ : ∃ r, F_X11_about f0 g0 a0 p1 p2 = some r ∧ r = out := ⟨out, hF, rfl⟩
  unfold F_X11_about at hF
  refine lv_aload_n hx hb dX11_about_0 rfl (lv_at hl 0 rfl) ?_
  refine va_get (D := D) (ci := 11) (v := .ref (ad 2)) (C := RX11) (T := TX11) (N := 10) hx hb hts hiX11 hown hK hP 0 rfl rfl 1 (by decide) hf19 (fun _ h9 => h9) rfl dX11_about_1 ?_
  refine lv_iload_n hx hb dX11_about_4 rfl (lv_at hl 1 rfl) ?_
  refine kS_b (va_runV (As := [.int p1]) (rest := []) ⟨hx, hb, hml, hown, hts⟩ (c_X9_has l hz D ad ck f0 g0 a0 p1) (cwV 1 hts gX11_about_X9_has rfl rfl rfl ⟨rfl, pX9_has⟩ ⟨Nat.le_of_ble_eq_true rfl, Nat.le_of_ble_eq_true rfl⟩) (kR.preV (va_recv hK hP (ci := 9) (q0 := 2) rfl rfl) hP hE) rfl rfl hl.1 rfl (lv_room (Nat.le_of_ble_eq_true rfl)) dX11_about_5 ⟨Nat.le_refl _, Nat.le_refl _⟩) (fun hz1 => ?_)
  refine lv_if_ne (tgt := 14) hx hb dX11_about_8 (by decide) (fun hc2 => ?_) (fun hc2 => ?_)
  · have hF := it_n hc2 hF
    refine lv_iload_n hx hb dX11_about_14 rfl (lv_at hl 2 rfl) ?_
    refine lv_if_lt (tgt := 24) hx hb dX11_about_15 (by decide) (fun hc3 => ?_) (fun hc3 => ?_)
    · have hF := it_p hc3 hF
      refine lv_bipush (v := (-102)) hx hb dX11_about_24 (by decide) ?_
      exact W.iret hx hb hr (fun t ht hW => ⟨_, rfl, (Option.some.inj hF).trans hp, ht⟩) (fun q hq => by cases hq) dX11_about_26
    · have hF := it_n hc3 hF
      refine lv_iload_n hx hb dX11_about_18 rfl (lv_at hl 2 rfl) ?_
      refine lv_bipush (v := 9) hx hb dX11_about_19 (by decide) ?_
      refine lv_icmp_lt (tgt := 27) hx hb dX11_about_21 (by decide) (fun hc4 => ?_) (fun hc4 => ?_)
      · have hF := it_p hc4 hF
        refine lv_aload_n hx hb dX11_about_27 rfl (lv_at hl 0 rfl) ?_
        refine lv_iload_n hx hb dX11_about_28 rfl (lv_at hl 1 rfl) ?_
        refine lv_iload_n hx hb dX11_about_29 rfl (lv_at hl 2 rfl) ?_
        obtain ⟨r5, he5, hF⟩ := bd_s hF
        refine kS_i (va_runV (As := [.int p1, .int p2]) (rest := []) ⟨hx, hb, hml, hown, hts⟩ (c_X11_tellAbout l hz D ad ck f0 g0 a0 p1 p2 r5 he5) (cwV 2 hts gX11_about_X11_tellAbout rfl rfl rfl ⟨rfl, pX11_tellAbout⟩ ⟨Nat.le_of_ble_eq_true rfl, Nat.le_of_ble_eq_true rfl⟩) (kR.preV (va_recv hK hP (ci := 11) (q0 := 0) rfl rfl) hP hE) rfl rfl hl.1 rfl (lv_room (Nat.le_of_ble_eq_true rfl)) dX11_about_30 ⟨Nat.le_refl _, Nat.le_refl _⟩) ?_
        exact W.iret hx hb hr (fun t ht hW => ⟨_, rfl, (Option.some.inj hF).trans hp, ht⟩) (fun q hq => by cases hq) dX11_about_33
      · have hF := it_n hc4 hF
        refine lv_bipush (v := (-102)) hx hb dX11_about_24 (by decide) ?_
        exact W.iret hx hb hr (fun t ht hW => ⟨_, rfl, (Option.some.inj hF).trans hp, ht⟩) (fun q hq => by cases hq) dX11_about_26
  · have hF := it_p hc2 hF
    refine lv_bipush (v := (-101)) hx hb dX11_about_11 (by decide) ?_
    exact W.iret hx hb hr (fun t ht hW => ⟨_, rfl, (Option.some.inj hF).trans hp, ht⟩) (fun q hq => by cases hq) dX11_about_13

def F_X11_go (f0 : Nat → Int32) (g0 : Nat → Int64) (a0 : Nat → Nat → Int32) (p1 : Int32) (p2 : Int32) : Option (Int32 × ST) := if (F_X9_has f0 g0 a0 p1) = 0 then some ((-101), f0, g0, a0) else if p2 < 0 then some ((-102), f0, g0, a0) else if p2 < 4 then some ((F_X11_roomIn (f0 6) p1), (upd (upd f0 6 (F_X11_withRoom (f0 6) p1 p2)) 8 (((upd f0 6 (F_X11_withRoom (f0 6) p1 p2)) 8) + (1 : Int32))), g0, a0) else some ((-102), f0, g0, a0)
set_option maxHeartbeats 4000000 in
set_option maxRecDepth 100000 in
theorem c_X11_go (l : Launch) (hz : Nat) (D : va_G) (ad : Nat → Nat) (ck : Nat → ClassId) (f0 : Nat → Int32) (g0 : Nat → Int64) (a0 : Nat → Nat → Int32) (p1 : Int32) (p2 : Int32) (out : (Int32 × ST)) (hF : F_X11_go f0 g0 a0 p1 p2 = some out) : Met l yX11_go wsX11_go ({ frames := 2, cells := 0, slots := 0, locals := 43 }) (kW hz D vwCl (tX ck) (wX ad ck f0 g0 a0) [.ref (ad 0), .int p1, .int p2]) (kQ D vwCl (some (.int out.1)) (wX ad ck f0 g0 a0) (wX ad ck out.2.1 out.2.2.1 out.2.2.2)) 0 0 (kAd (wX ad ck f0 g0 a0)) := by
  refine Met.ofW (cc := cX11_go) (maxL := 5) (ret := (some .int)) (by decide) rfl ?_
  intro p e s m args below meth c s₁ B hml hv
  obtain ⟨rfl, hP, hE, hD0⟩ := hv
  have hx := B.exec
  have hb := B.bytes
  have hr := B.returns
  have hts := atoms_spec (ws := wsX11_go) B.pre
  have hown : s.vm.findClass RX11 = some m.cls := findClass_of_methodNamed B.named
  have hlocks := B.notSynchronized
  have hK := hE.1
  have hnA := kAd_up hD0
  have hD := kD_self hD0
  have hS : va_S (kAd (wX ad ck f0 g0 a0)) s.heap s.heap [] := va_S.rf
  have hiX11 : ∀ w ∈ u_ws RX11 TX11 10, w ∈ wsX11_go := by decide +kernel
  have hiX3 : ∀ w ∈ u_ws RX3 TX3 10, w ∈ wsX11_go := by decide +kernel
  have hiX9 : ∀ w ∈ u_ws RX9 TX9 4, w ∈ wsX11_go := by decide +kernel
  have hf19 := hts (.fieldLink RX11 19 "SpeltByFriends" "here" "LSpeltByFriends$Town;") (by decide +kernel)
  have hf92 := hts (.fieldLink RX11 92 "SpeltByFriends$Town" "ledger" "LSpeltByFriends$Ledger;") (by decide +kernel)
  have hf95 := hts (.fieldLink RX11 95 "SpeltByFriends$Ledger" "rooms" "I") (by decide +kernel)
  have hf105 := hts (.fieldLink RX11 105 "SpeltByFriends$Ledger" "went" "I") (by decide +kernel)
  have hl := lv_entry ([.ref (ad 0), .int p1, .int p2]) (n := 5) (Nat.le_of_ble_eq_true rfl)
  rw [lg_entry_eq]
  generalize (lg_sl ([.ref (ad 0), .int p1, .int p2]) ++ List.replicate (5 - (lg_sl ([.ref (ad 0), .int p1, .int p2])).length) Slot.unset).toArray = ls at hl ⊢
  have hl : lv_has ls 5 [(0, .ref (ad 0)), (1, .int p1), (2, .int p2)] := hl
  obtain ⟨r, hF, hp⟩ : ∃ r, F_X11_go f0 g0 a0 p1 p2 = some r ∧ r = out := ⟨out, hF, rfl⟩
  unfold F_X11_go at hF
  refine lv_aload_n hx hb dX11_go_0 rfl (lv_at hl 0 rfl) ?_
  refine va_get (D := D) (ci := 11) (v := .ref (ad 2)) (C := RX11) (T := TX11) (N := 10) hx hb hts hiX11 hown hK hP 0 rfl rfl 1 (by decide) hf19 (fun _ h9 => h9) rfl dX11_go_1 ?_
  refine lv_iload_n hx hb dX11_go_4 rfl (lv_at hl 1 rfl) ?_
  refine kS_b (va_runV (As := [.int p1]) (rest := []) ⟨hx, hb, hml, hown, hts⟩ (c_X9_has l hz D ad ck f0 g0 a0 p1) (cwV 1 hts gX11_go_X9_has rfl rfl rfl ⟨rfl, pX9_has⟩ ⟨Nat.le_of_ble_eq_true rfl, Nat.le_of_ble_eq_true rfl⟩) (kR.preV (va_recv hK hP (ci := 9) (q0 := 2) rfl rfl) hP (hE.kept hS hnA)) rfl rfl hl.1 rfl (lv_room (Nat.le_of_ble_eq_true rfl)) dX11_go_5 ⟨Nat.le_refl _, Nat.le_refl _⟩) (fun hz1 => ?_)
  refine lv_if_ne (tgt := 14) hx hb dX11_go_8 (by decide) (fun hc2 => ?_) (fun hc2 => ?_)
  · have hF := it_n hc2 hF
    refine lv_iload_n hx hb dX11_go_14 rfl (lv_at hl 2 rfl) ?_
    refine lv_if_lt (tgt := 23) hx hb dX11_go_15 (by decide) (fun hc3 => ?_) (fun hc3 => ?_)
    · have hF := it_p hc3 hF
      refine lv_bipush (v := (-102)) hx hb dX11_go_23 (by decide) ?_
      have hF := (Option.some.inj hF).trans hp
      subst hF
      exact W.iret hx hb hr (fun t ht hW => ⟨rfl, by rw [ht]; exact hP, hS.F ht⟩) hS.2.2 dX11_go_25
    · have hF := it_n hc3 hF
      refine lv_iload_n hx hb dX11_go_18 rfl (lv_at hl 2 rfl) ?_
      refine lv_iconst (v := 4) hx hb dX11_go_19 (by decide) ?_
      refine lv_icmp_lt (tgt := 26) hx hb dX11_go_20 (by decide) (fun hc4 => ?_) (fun hc4 => ?_)
      · have hF := it_p hc4 hF
        refine lv_aload_n hx hb dX11_go_26 rfl (lv_at hl 0 rfl) ?_
        refine va_get (D := D) (ci := 11) (v := .ref (ad 2)) (C := RX11) (T := TX11) (N := 10) hx hb hts hiX11 hown hK hP 0 rfl rfl 1 (by decide) hf19 (fun _ h9 => h9) rfl dX11_go_27 ?_
        refine va_get (D := D) (ci := 9) (v := .ref (ad 3)) (C := RX9) (T := TX9) (N := 4) hx hb hts hiX9 hown hK hP 2 rfl rfl 0 (by decide) hf92 (fun _ h9 => h9) rfl dX11_go_30 ?_
        refine lv_astore_n (lv' := [(3, .ref (ad 3)), (0, .ref (ad 0)), (1, .int p1), (2, .int p2)]) hx hb dX11_go_33 rfl hl (by decide) rfl (fun ls hl => ?_)
        refine lv_aload_n hx hb dX11_go_34 rfl (lv_at hl 0 rfl) ?_
        refine va_get (D := D) (ci := 3) (v := .int (f0 6)) (C := RX3) (T := TX3) (N := 10) hx hb hts hiX3 hown hK hP 3 rfl rfl 6 (by decide) hf95 (fun _ h9 => h9) rfl dX11_go_35 ?_
        refine lv_iload_n hx hb dX11_go_38 rfl (lv_at hl 2 rfl) ?_
        refine kS_i (va_runS (As := [.int (f0 6), .int p1]) (rest := []) ⟨hx, hb, hml, hown, hts⟩ (c_X11_roomIn l hz D (tX ck) (f0 6) p1) (va_cwS 2 hts gX11_go_X11_roomIn rfl rfl rfl pX11_roomIn ⟨Nat.le_of_ble_eq_true rfl, Nat.le_of_ble_eq_true rfl⟩) (kR.preS kP_nil (hE.kept hS hnA)) rfl rfl hl.1 rfl (lv_room (Nat.le_of_ble_eq_true rfl)) dX11_go_39 ⟨Nat.le_refl _, Nat.le_refl _⟩) ?_
        refine lv_istore (lv' := [(4, .int (F_X11_roomIn (f0 6) p1)), (3, .ref (ad 3)), (0, .ref (ad 0)), (1, .int p1), (2, .int p2)]) hx hb dX11_go_42 hl (by decide) rfl (fun ls hl => ?_)
        refine lv_aload_n hx hb dX11_go_44 rfl (lv_at hl 1 rfl) ?_
        refine lv_aload_n hx hb dX11_go_45 rfl (lv_at hl 1 rfl) ?_
        refine va_get (D := D) (ci := 3) (v := .int (f0 6)) (C := RX3) (T := TX3) (N := 10) hx hb hts hiX3 hown hK hP 3 rfl rfl 6 (by decide) hf95 (fun _ h9 => h9) rfl dX11_go_46 ?_
        refine lv_iload_n hx hb dX11_go_49 rfl (lv_at hl 3 rfl) ?_
        refine lv_iload_n hx hb dX11_go_50 rfl (lv_at hl 4 rfl) ?_
        refine kS_i (va_runS (As := [.int (f0 6), .int p1, .int p2]) (rest := [.ref (ad 3)]) ⟨hx, hb, hml, hown, hts⟩ (c_X11_withRoom l hz D (tX ck) (f0 6) p1 p2) (va_cwS 3 hts gX11_go_X11_withRoom rfl rfl rfl pX11_withRoom ⟨Nat.le_of_ble_eq_true rfl, Nat.le_of_ble_eq_true rfl⟩) (kR.preS kP_nil (hE.kept hS hnA)) rfl rfl hl.1 rfl (lv_room (Nat.le_of_ble_eq_true rfl)) dX11_go_51 ⟨Nat.le_refl _, Nat.le_refl _⟩) ?_
        refine va_put (D := D) (ci := 3) (v := .int (F_X11_withRoom (f0 6) p1 p2)) (ty := .int) (C := RX3) (T := TX3) (N := 10) hx hb hts hiX3 tyX3 tyX3_ok nmX3 hown hK hP hD hS 3 rfl rfl 6 (by decide) hf95 (fun _ h9 => h9) rfl (tyX3_ok 6 (by decide)) rfl rfl (Nat.le_of_ble_eq_true rfl) dX11_go_54 (fun H locs hP hD hS => ?_)
        have hP := kPe (ef_wX3_6 ad ck f0 g0 a0 (F_X11_withRoom (f0 6) p1 p2)) hP
        have hD := kDe (ef_wX3_6 ad ck f0 g0 a0 (F_X11_withRoom (f0 6) p1 p2)) hD
        refine lv_aload_n hx hb dX11_go_57 rfl (lv_at hl 1 rfl) ?_
        refine lv_dup hx hb dX11_go_58 rfl ?_
        refine va_get (D := D) (ci := 3) (v := .int ((upd f0 6 (F_X11_withRoom (f0 6) p1 p2)) 8)) (C := RX3) (T := TX3) (N := 10) hx hb hts hiX3 hown hK hP 3 rfl rfl 8 (by decide) hf105 (fun _ h9 => h9) rfl dX11_go_59 ?_
        refine lv_iconst (v := 1) hx hb dX11_go_62 (by decide) ?_
        refine lv_iadd hx hb dX11_go_63 ?_
        refine va_put (D := D) (ci := 3) (v := .int (((upd f0 6 (F_X11_withRoom (f0 6) p1 p2)) 8) + (1 : Int32))) (ty := .int) (C := RX3) (T := TX3) (N := 10) hx hb hts hiX3 tyX3 tyX3_ok nmX3 hown hK hP hD hS 3 rfl rfl 8 (by decide) hf105 (fun _ h9 => h9) rfl (tyX3_ok 8 (by decide)) rfl rfl (Nat.le_of_ble_eq_true rfl) dX11_go_64 (fun H locs hP hD hS => ?_)
        have hP := kPe (ef_wX3_8 ad ck (upd f0 6 (F_X11_withRoom (f0 6) p1 p2)) g0 a0 (((upd f0 6 (F_X11_withRoom (f0 6) p1 p2)) 8) + (1 : Int32))) hP
        have hD := kDe (ef_wX3_8 ad ck (upd f0 6 (F_X11_withRoom (f0 6) p1 p2)) g0 a0 (((upd f0 6 (F_X11_withRoom (f0 6) p1 p2)) 8) + (1 : Int32))) hD
        refine lv_iload hx hb dX11_go_67 (lv_at hl 0 rfl) ?_
        have hF := (Option.some.inj hF).trans hp
        subst hF
        exact W.iret hx hb hr (fun t ht hW => ⟨rfl, by rw [ht]; exact hP, hS.F ht⟩) hS.2.2 dX11_go_69
      · have hF := it_n hc4 hF
        refine lv_bipush (v := (-102)) hx hb dX11_go_23 (by decide) ?_
        have hF := (Option.some.inj hF).trans hp
        subst hF
        exact W.iret hx hb hr (fun t ht hW => ⟨rfl, by rw [ht]; exact hP, hS.F ht⟩) hS.2.2 dX11_go_25
  · have hF := it_p hc2 hF
    refine lv_bipush (v := (-101)) hx hb dX11_go_11 (by decide) ?_
    have hF := (Option.some.inj hF).trans hp
    subst hF
    exact W.iret hx hb hr (fun t ht hW => ⟨rfl, by rw [ht]; exact hP, hS.F ht⟩) hS.2.2 dX11_go_13

def N_X11_sell_63 (f63 : Nat → Int32) (g63 : Nat → Int64) (a63 : Nat → Nat → Int32) (x1_63 : Int32) (x3_63 : Int32) : Option (Int32 × ST) := some ((F_at 5 (a63 15) x1_63), (upd f63 9 ((f63 9) + (1 : Int32))), g63, (us a63 15 (F_put 5 (a63 15) x1_63 x3_63)))
def N_X11_sell_63v1 (f63v1 : Nat → Int32) (g63v1 : Nat → Int64) (a63v1 : Nat → Nat → Int32) (x1_63v1 : Int32) (x3_63v1 : Int32) : Option (Int32 × ST) := some ((F_at 5 (a63v1 14) x1_63v1), (upd f63v1 9 ((f63v1 9) + (1 : Int32))), g63v1, (us a63v1 14 (F_put 5 (a63v1 14) x1_63v1 x3_63v1)))
def F_X11_sell (f0 : Nat → Int32) (g0 : Nat → Int64) (a0 : Nat → Nat → Int32) (p1 : Int32) (p2 : Int32) (p3 : Int32) : Option (Int32 × ST) := if (F_X9_has f0 g0 a0 p1) = 0 then some ((-101), f0, g0, a0) else if (F_X9_has f0 g0 a0 p3) = 0 then some ((-101), f0, g0, a0) else if p2 < 0 then some ((-102), f0, g0, a0) else if p2 ≤ 1 then if p2 = 0 then N_X11_sell_63v1 f0 g0 a0 p1 p3 else N_X11_sell_63 f0 g0 a0 p1 p3 else some ((-102), f0, g0, a0)
set_option maxHeartbeats 4000000 in
set_option maxRecDepth 100000 in
theorem c_X11_sell (l : Launch) (hz : Nat) (D : va_G) (ad : Nat → Nat) (ck : Nat → ClassId) (f0 : Nat → Int32) (g0 : Nat → Int64) (a0 : Nat → Nat → Int32) (p1 : Int32) (p2 : Int32) (p3 : Int32) (out : (Int32 × ST)) (hF : F_X11_sell f0 g0 a0 p1 p2 p3 = some out) : Met l yX11_sell wsX11_sell ({ frames := 1, cells := 0, slots := 0, locals := 22 }) (kW hz D vwCl (tX ck) (wX ad ck f0 g0 a0) [.ref (ad 0), .int p1, .int p2, .int p3]) (kQ D vwCl (some (.int out.1)) (wX ad ck f0 g0 a0) (wX ad ck out.2.1 out.2.2.1 out.2.2.2)) 0 0 (kAd (wX ad ck f0 g0 a0)) := by
  refine Met.ofW (cc := cX11_sell) (maxL := 7) (ret := (some .int)) (by decide) rfl ?_
  intro p e s m args below meth c s₁ B hml hv
  obtain ⟨rfl, hP, hE, hD0⟩ := hv
  have hx := B.exec
  have hb := B.bytes
  have hr := B.returns
  have hts := atoms_spec (ws := wsX11_sell) B.pre
  have hown : s.vm.findClass RX11 = some m.cls := findClass_of_methodNamed B.named
  have hlocks := B.notSynchronized
  have hK := hE.1
  have hnA := kAd_up hD0
  have hD := kD_self hD0
  have hS : va_S (kAd (wX ad ck f0 g0 a0)) s.heap s.heap [] := va_S.rf
  have hiX11 : ∀ w ∈ u_ws RX11 TX11 10, w ∈ wsX11_sell := by decide +kernel
  have hiX3 : ∀ w ∈ u_ws RX3 TX3 10, w ∈ wsX11_sell := by decide +kernel
  have hiX9 : ∀ w ∈ u_ws RX9 TX9 4, w ∈ wsX11_sell := by decide +kernel
  have hf19 := hts (.fieldLink RX11 19 "SpeltByFriends" "here" "LSpeltByFriends$Town;") (by decide +kernel)
  have hf92 := hts (.fieldLink RX11 92 "SpeltByFriends$Town" "ledger" "LSpeltByFriends$Ledger;") (by decide +kernel)
  have hf108 := hts (.fieldLink RX11 108 "SpeltByFriends$Ledger" "firstHolder" "[I") (by decide +kernel)
  have hf112 := hts (.fieldLink RX11 112 "SpeltByFriends$Ledger" "lastHolder" "[I") (by decide +kernel)
  have hf123 := hts (.fieldLink RX11 123 "SpeltByFriends$Ledger" "sold" "I") (by decide +kernel)
  have hN_63 : ∀ (f63 : Nat → Int32) (g63 : Nat → Int64) (a63 : Nat → Nat → Int32) (H : Heap) (locs : List Loc) (x1_63 : Int32) (x3_63 : Int32) (ls : Array Slot), va_P D vwCl (wX ad ck f63 g63 a63) H → va_D (kAd (wX ad ck f0 g0 a0)) (wX ad ck f63 g63 a63) → va_S (kAd (wX ad ck f0 g0 a0)) s.heap H locs → lv_has ls 7 [(1, .int x1_63), (3, .int x3_63), (4, .ref (ad 3))] → ∀ r : (Int32 × ST), N_X11_sell_63 f63 g63 a63 x1_63 x3_63 = some r → (fun r => r = out) r → W p l e (headSpec wsX11_sell ({ frames := 1, cells := 0, slots := 0, locals := 22 })).room s m [.ref (ad 0), .int p1, .int p2, .int p3].toArray below meth c H locs 0 0 (MQ below (kQ D vwCl (some (.int out.1)) (wX ad ck f0 g0 a0) (wX ad ck out.2.1 out.2.2.1 out.2.2.2)) [.ref (ad 0), .int p1, .int p2, .int p3].toArray s 0 0 (kAd (wX ad ck f0 g0 a0))) (F0 m 63 ls [.ref (ad 15)]) := by
    intro f63 g63 a63 H locs x1_63 x3_63 ls hP hD hS hl r hF hp
    unfold N_X11_sell_63 at hF
    refine lv_astore (lv' := [(5, .ref (ad 15)), (1, .int x1_63), (3, .int x3_63), (4, .ref (ad 3))]) hx hb dX11_sell_63 hl (by decide) rfl (fun ls hl => ?_)
    refine lv_aload hx hb dX11_sell_65 (lv_at hl 0 rfl) ?_
    refine lv_iload_n hx hb dX11_sell_67 rfl (lv_at hl 1 rfl) ?_
    refine kS_i (va_runS (As := [.ref (ad 15), .int x1_63]) (rest := []) ⟨hx, hb, hml, hown, hts⟩ (c_X11_at l hz D (tX ck) (wX ad ck f63 g63 a63) 15 2 rfl rfl (by decide) x1_63) (va_cwS 2 hts gX11_sell_X11_at rfl rfl rfl pX11_at ⟨Nat.le_of_ble_eq_true rfl, Nat.le_of_ble_eq_true rfl⟩) (kR.preS hP (hE.kept hS hnA)) rfl rfl hl.1 rfl (lv_room (Nat.le_of_ble_eq_true rfl)) dX11_sell_68 ⟨Nat.le_refl _, Nat.le_refl _⟩) ?_
    refine lv_istore (lv' := [(6, .int (F_at 5 (a63 15) x1_63)), (5, .ref (ad 15)), (1, .int x1_63), (3, .int x3_63), (4, .ref (ad 3))]) hx hb dX11_sell_71 hl (by decide) rfl (fun ls hl => ?_)
    refine lv_aload hx hb dX11_sell_73 (lv_at hl 1 rfl) ?_
    refine lv_iload_n hx hb dX11_sell_75 rfl (lv_at hl 2 rfl) ?_
    refine lv_iload_n hx hb dX11_sell_76 rfl (lv_at hl 3 rfl) ?_
    refine kS_w (va_runS (As := [.ref (ad 15), .int x1_63, .int x3_63]) (rest := []) ⟨hx, hb, hml, hown, hts⟩ (c_X11_put l hz D (tX ck) (wX ad ck f63 g63 a63) 15 2 rfl rfl (by decide) x1_63 x3_63) (va_cwS 3 hts gX11_sell_X11_put rfl rfl rfl pX11_put ⟨Nat.le_of_ble_eq_true rfl, Nat.le_of_ble_eq_true rfl⟩) (kW.preS hP (hE.kept hS hnA) hD hnA) rfl rfl hl.1 rfl (lv_room (Nat.le_of_ble_eq_true rfl)) dX11_sell_77 ⟨Nat.le_refl _, Nat.le_refl _⟩) hD hS (kSet_fst rfl) (fun H locs hP hD hS => ?_)
    have hP := kPe (es_wX15 ad ck f63 g63 a63 (F_put 5 (a63 15) x1_63 x3_63)) hP
    have hD := kDe (es_wX15 ad ck f63 g63 a63 (F_put 5 (a63 15) x1_63 x3_63)) hD
    refine lv_aload hx hb dX11_sell_80 (lv_at hl 4 rfl) ?_
    refine lv_dup hx hb dX11_sell_82 rfl ?_
    refine va_get (D := D) (ci := 3) (v := .int (f63 9)) (C := RX3) (T := TX3) (N := 10) hx hb hts hiX3 hown hK hP 3 rfl rfl 9 (by decide) hf123 (fun _ h9 => h9) rfl dX11_sell_83 ?_
    refine lv_iconst (v := 1) hx hb dX11_sell_86 (by decide) ?_
    refine lv_iadd hx hb dX11_sell_87 ?_
    refine va_put (D := D) (ci := 3) (v := .int ((f63 9) + (1 : Int32))) (ty := .int) (C := RX3) (T := TX3) (N := 10) hx hb hts hiX3 tyX3 tyX3_ok nmX3 hown hK hP hD hS 3 rfl rfl 9 (by decide) hf123 (fun _ h9 => h9) rfl (tyX3_ok 9 (by decide)) rfl rfl (Nat.le_of_ble_eq_true rfl) dX11_sell_88 (fun H locs hP hD hS => ?_)
    have hP := kPe (ef_wX3_9 ad ck f63 g63 (us a63 15 (F_put 5 (a63 15) x1_63 x3_63)) ((f63 9) + (1 : Int32))) hP
    have hD := kDe (ef_wX3_9 ad ck f63 g63 (us a63 15 (F_put 5 (a63 15) x1_63 x3_63)) ((f63 9) + (1 : Int32))) hD
    refine lv_iload hx hb dX11_sell_91 (lv_at hl 0 rfl) ?_
    have hF := (Option.some.inj hF).trans hp
    subst hF
    exact W.iret hx hb hr (fun t ht hW => ⟨rfl, by rw [ht]; exact hP, hS.F ht⟩) hS.2.2 dX11_sell_93
  have hN_63v1 : ∀ (f63v1 : Nat → Int32) (g63v1 : Nat → Int64) (a63v1 : Nat → Nat → Int32) (H : Heap) (locs : List Loc) (x1_63v1 : Int32) (x3_63v1 : Int32) (ls : Array Slot), va_P D vwCl (wX ad ck f63v1 g63v1 a63v1) H → va_D (kAd (wX ad ck f0 g0 a0)) (wX ad ck f63v1 g63v1 a63v1) → va_S (kAd (wX ad ck f0 g0 a0)) s.heap H locs → lv_has ls 7 [(1, .int x1_63v1), (3, .int x3_63v1), (4, .ref (ad 3))] → ∀ r : (Int32 × ST), N_X11_sell_63v1 f63v1 g63v1 a63v1 x1_63v1 x3_63v1 = some r → (fun r => r = out) r → W p l e (headSpec wsX11_sell ({ frames := 1, cells := 0, slots := 0, locals := 22 })).room s m [.ref (ad 0), .int p1, .int p2, .int p3].toArray below meth c H locs 0 0 (MQ below (kQ D vwCl (some (.int out.1)) (wX ad ck f0 g0 a0) (wX ad ck out.2.1 out.2.2.1 out.2.2.2)) [.ref (ad 0), .int p1, .int p2, .int p3].toArray s 0 0 (kAd (wX ad ck f0 g0 a0))) (F0 m 63 ls [.ref (ad 14)]) := by
    intro f63v1 g63v1 a63v1 H locs x1_63v1 x3_63v1 ls hP hD hS hl r hF hp
    unfold N_X11_sell_63v1 at hF
    refine lv_astore (lv' := [(5, .ref (ad 14)), (1, .int x1_63v1), (3, .int x3_63v1), (4, .ref (ad 3))]) hx hb dX11_sell_63 hl (by decide) rfl (fun ls hl => ?_)
    refine lv_aload hx hb dX11_sell_65 (lv_at hl 0 rfl) ?_
    refine lv_iload_n hx hb dX11_sell_67 rfl (lv_at hl 1 rfl) ?_
    refine kS_i (va_runS (As := [.ref (ad 14), .int x1_63v1]) (rest := []) ⟨hx, hb, hml, hown, hts⟩ (c_X11_at l hz D (tX ck) (wX ad ck f63v1 g63v1 a63v1) 14 1 rfl rfl (by decide) x1_63v1) (va_cwS 2 hts gX11_sell_X11_at rfl rfl rfl pX11_at ⟨Nat.le_of_ble_eq_true rfl, Nat.le_of_ble_eq_true rfl⟩) (kR.preS hP (hE.kept hS hnA)) rfl rfl hl.1 rfl (lv_room (Nat.le_of_ble_eq_true rfl)) dX11_sell_68 ⟨Nat.le_refl _, Nat.le_refl _⟩) ?_
    refine lv_istore (lv' := [(6, .int (F_at 5 (a63v1 14) x1_63v1)), (5, .ref (ad 14)), (1, .int x1_63v1), (3, .int x3_63v1), (4, .ref (ad 3))]) hx hb dX11_sell_71 hl (by decide) rfl (fun ls hl => ?_)
    refine lv_aload hx hb dX11_sell_73 (lv_at hl 1 rfl) ?_
    refine lv_iload_n hx hb dX11_sell_75 rfl (lv_at hl 2 rfl) ?_
    refine lv_iload_n hx hb dX11_sell_76 rfl (lv_at hl 3 rfl) ?_
    refine kS_w (va_runS (As := [.ref (ad 14), .int x1_63v1, .int x3_63v1]) (rest := []) ⟨hx, hb, hml, hown, hts⟩ (c_X11_put l hz D (tX ck) (wX ad ck f63v1 g63v1 a63v1) 14 1 rfl rfl (by decide) x1_63v1 x3_63v1) (va_cwS 3 hts gX11_sell_X11_put rfl rfl rfl pX11_put ⟨Nat.le_of_ble_eq_true rfl, Nat.le_of_ble_eq_true rfl⟩) (kW.preS hP (hE.kept hS hnA) hD hnA) rfl rfl hl.1 rfl (lv_room (Nat.le_of_ble_eq_true rfl)) dX11_sell_77 ⟨Nat.le_refl _, Nat.le_refl _⟩) hD hS (kSet_fst rfl) (fun H locs hP hD hS => ?_)
    have hP := kPe (es_wX14 ad ck f63v1 g63v1 a63v1 (F_put 5 (a63v1 14) x1_63v1 x3_63v1)) hP
    have hD := kDe (es_wX14 ad ck f63v1 g63v1 a63v1 (F_put 5 (a63v1 14) x1_63v1 x3_63v1)) hD
    refine lv_aload hx hb dX11_sell_80 (lv_at hl 4 rfl) ?_
    refine lv_dup hx hb dX11_sell_82 rfl ?_
    refine va_get (D := D) (ci := 3) (v := .int (f63v1 9)) (C := RX3) (T := TX3) (N := 10) hx hb hts hiX3 hown hK hP 3 rfl rfl 9 (by decide) hf123 (fun _ h9 => h9) rfl dX11_sell_83 ?_
    refine lv_iconst (v := 1) hx hb dX11_sell_86 (by decide) ?_
    refine lv_iadd hx hb dX11_sell_87 ?_
    refine va_put (D := D) (ci := 3) (v := .int ((f63v1 9) + (1 : Int32))) (ty := .int) (C := RX3) (T := TX3) (N := 10) hx hb hts hiX3 tyX3 tyX3_ok nmX3 hown hK hP hD hS 3 rfl rfl 9 (by decide) hf123 (fun _ h9 => h9) rfl (tyX3_ok 9 (by decide)) rfl rfl (Nat.le_of_ble_eq_true rfl) dX11_sell_88 (fun H locs hP hD hS => ?_)
    have hP := kPe (ef_wX3_9 ad ck f63v1 g63v1 (us a63v1 14 (F_put 5 (a63v1 14) x1_63v1 x3_63v1)) ((f63v1 9) + (1 : Int32))) hP
    have hD := kDe (ef_wX3_9 ad ck f63v1 g63v1 (us a63v1 14 (F_put 5 (a63v1 14) x1_63v1 x3_63v1)) ((f63v1 9) + (1 : Int32))) hD
    refine lv_iload hx hb dX11_sell_91 (lv_at hl 0 rfl) ?_
    have hF := (Option.some.inj hF).trans hp
    subst hF
    exact W.iret hx hb hr (fun t ht hW => ⟨rfl, by rw [ht]; exact hP, hS.F ht⟩) hS.2.2 dX11_sell_93
  have hl := lv_entry ([.ref (ad 0), .int p1, .int p2, .int p3]) (n := 7) (Nat.le_of_ble_eq_true rfl)
  rw [lg_entry_eq]
  generalize (lg_sl ([.ref (ad 0), .int p1, .int p2, .int p3]) ++ List.replicate (7 - (lg_sl ([.ref (ad 0), .int p1, .int p2, .int p3])).length) Slot.unset).toArray = ls at hl ⊢
  have hl : lv_has ls 7 [(0, .ref (ad 0)), (1, .int p1), (2, .int p2), (3, .int p3)] := hl
  obtain ⟨r, hF, hp⟩ : ∃ r, F_X11_sell f0 g0 a0 p1 p2 p3 = some r ∧ r = out := ⟨out, hF, rfl⟩
  unfold F_X11_sell at hF
  refine lv_aload_n hx hb dX11_sell_0 rfl (lv_at hl 0 rfl) ?_
  refine va_get (D := D) (ci := 11) (v := .ref (ad 2)) (C := RX11) (T := TX11) (N := 10) hx hb hts hiX11 hown hK hP 0 rfl rfl 1 (by decide) hf19 (fun _ h9 => h9) rfl dX11_sell_1 ?_
  refine lv_iload_n hx hb dX11_sell_4 rfl (lv_at hl 1 rfl) ?_
  refine kS_b (va_runV (As := [.int p1]) (rest := []) ⟨hx, hb, hml, hown, hts⟩ (c_X9_has l hz D ad ck f0 g0 a0 p1) (cwV 1 hts gX11_sell_X9_has rfl rfl rfl ⟨rfl, pX9_has⟩ ⟨Nat.le_of_ble_eq_true rfl, Nat.le_of_ble_eq_true rfl⟩) (kR.preV (va_recv hK hP (ci := 9) (q0 := 2) rfl rfl) hP (hE.kept hS hnA)) rfl rfl hl.1 rfl (lv_room (Nat.le_of_ble_eq_true rfl)) dX11_sell_5 ⟨Nat.le_refl _, Nat.le_refl _⟩) (fun hz1 => ?_)
  refine lv_if_eq (tgt := 22) hx hb dX11_sell_8 (by decide) (fun hc2 => ?_) (fun hc2 => ?_)
  · have hF := it_p hc2 hF
    refine lv_bipush (v := (-101)) hx hb dX11_sell_22 (by decide) ?_
    have hF := (Option.some.inj hF).trans hp
    subst hF
    exact W.iret hx hb hr (fun t ht hW => ⟨rfl, by rw [ht]; exact hP, hS.F ht⟩) hS.2.2 dX11_sell_24
  · have hF := it_n hc2 hF
    refine lv_aload_n hx hb dX11_sell_11 rfl (lv_at hl 0 rfl) ?_
    refine va_get (D := D) (ci := 11) (v := .ref (ad 2)) (C := RX11) (T := TX11) (N := 10) hx hb hts hiX11 hown hK hP 0 rfl rfl 1 (by decide) hf19 (fun _ h9 => h9) rfl dX11_sell_12 ?_
    refine lv_iload_n hx hb dX11_sell_15 rfl (lv_at hl 3 rfl) ?_
    refine kS_b (va_runV (As := [.int p3]) (rest := []) ⟨hx, hb, hml, hown, hts⟩ (c_X9_has l hz D ad ck f0 g0 a0 p3) (cwV 1 hts gX11_sell_X9_has rfl rfl rfl ⟨rfl, pX9_has⟩ ⟨Nat.le_of_ble_eq_true rfl, Nat.le_of_ble_eq_true rfl⟩) (kR.preV (va_recv hK hP (ci := 9) (q0 := 2) rfl rfl) hP (hE.kept hS hnA)) rfl rfl hl.1 rfl (lv_room (Nat.le_of_ble_eq_true rfl)) dX11_sell_16 ⟨Nat.le_refl _, Nat.le_refl _⟩) (fun hz3 => ?_)
    refine lv_if_ne (tgt := 25) hx hb dX11_sell_19 (by decide) (fun hc4 => ?_) (fun hc4 => ?_)
    · have hF := it_n hc4 hF
      refine lv_iload_n hx hb dX11_sell_25 rfl (lv_at hl 2 rfl) ?_
      refine lv_if_lt (tgt := 34) hx hb dX11_sell_26 (by decide) (fun hc5 => ?_) (fun hc5 => ?_)
      · have hF := it_p hc5 hF
        refine lv_bipush (v := (-102)) hx hb dX11_sell_34 (by decide) ?_
        have hF := (Option.some.inj hF).trans hp
        subst hF
        exact W.iret hx hb hr (fun t ht hW => ⟨rfl, by rw [ht]; exact hP, hS.F ht⟩) hS.2.2 dX11_sell_36
      · have hF := it_n hc5 hF
        refine lv_iload_n hx hb dX11_sell_29 rfl (lv_at hl 2 rfl) ?_
        refine lv_iconst (v := 1) hx hb dX11_sell_30 (by decide) ?_
        refine lv_icmp_le (tgt := 37) hx hb dX11_sell_31 (by decide) (fun hc6 => ?_) (fun hc6 => ?_)
        · have hF := it_p hc6 hF
          refine lv_aload_n hx hb dX11_sell_37 rfl (lv_at hl 0 rfl) ?_
          refine va_get (D := D) (ci := 11) (v := .ref (ad 2)) (C := RX11) (T := TX11) (N := 10) hx hb hts hiX11 hown hK hP 0 rfl rfl 1 (by decide) hf19 (fun _ h9 => h9) rfl dX11_sell_38 ?_
          refine va_get (D := D) (ci := 9) (v := .ref (ad 3)) (C := RX9) (T := TX9) (N := 4) hx hb hts hiX9 hown hK hP 2 rfl rfl 0 (by decide) hf92 (fun _ h9 => h9) rfl dX11_sell_41 ?_
          refine lv_astore (lv' := [(4, .ref (ad 3)), (0, .ref (ad 0)), (1, .int p1), (2, .int p2), (3, .int p3)]) hx hb dX11_sell_44 hl (by decide) rfl (fun ls hl => ?_)
          refine lv_iload_n hx hb dX11_sell_46 rfl (lv_at hl 3 rfl) ?_
          refine lv_if_ne (tgt := 58) hx hb dX11_sell_47 (by decide) (fun hc7 => ?_) (fun hc7 => ?_)
          · have hF := it_n hc7 hF
            refine lv_aload hx hb dX11_sell_58 (lv_at hl 0 rfl) ?_
            refine va_get (D := D) (ci := 3) (v := .ref (ad 15)) (C := RX3) (T := TX3) (N := 10) hx hb hts hiX3 hown hK hP 3 rfl rfl 1 (by decide) hf112 (fun _ h9 => h9) rfl dX11_sell_60 ?_
            exact hN_63 f0 g0 a0 _ _ p1 p3 ls hP hD hS (lv_sub hl [2, 4, 0] rfl) _ hF hp
          · have hF := it_p hc7 hF
            refine lv_aload hx hb dX11_sell_50 (lv_at hl 0 rfl) ?_
            refine va_get (D := D) (ci := 3) (v := .ref (ad 14)) (C := RX3) (T := TX3) (N := 10) hx hb hts hiX3 hown hK hP 3 rfl rfl 0 (by decide) hf108 (fun _ h9 => h9) rfl dX11_sell_52 ?_
            refine lv_goto (tgt := 63) hx hb dX11_sell_55 (by decide) ?_
            exact hN_63v1 f0 g0 a0 _ _ p1 p3 ls hP hD hS (lv_sub hl [2, 4, 0] rfl) _ hF hp
        · have hF := it_n hc6 hF
          refine lv_bipush (v := (-102)) hx hb dX11_sell_34 (by decide) ?_
          have hF := (Option.some.inj hF).trans hp
          subst hF
          exact W.iret hx hb hr (fun t ht hW => ⟨rfl, by rw [ht]; exact hP, hS.F ht⟩) hS.2.2 dX11_sell_36
    · have hF := it_p hc4 hF
      refine lv_bipush (v := (-101)) hx hb dX11_sell_22 (by decide) ?_
      have hF := (Option.some.inj hF).trans hp
      subst hF
      exact W.iret hx hb hr (fun t ht hW => ⟨rfl, by rw [ht]; exact hP, hS.F ht⟩) hS.2.2 dX11_sell_24

def F_X11_quarrel (f0 : Nat → Int32) (g0 : Nat → Int64) (a0 : Nat → Nat → Int32) (p1 : Int32) (p2 : Int32) (p3 : Int32) : Option (Int32 × ST) := if (F_X9_has f0 g0 a0 p1) = 0 then some ((-101), f0, g0, a0) else if (F_X9_has f0 g0 a0 p2) = 0 then some ((-101), f0, g0, a0) else if p1 = p2 then some ((-101), f0, g0, a0) else (F_X3_setFoe f0 g0 a0 p1 p2 p3).bind fun r6 => (F_X3_setFoe r6.1 r6.2.1 r6.2.2 p2 p1 p3).bind fun r7 => some ((((F_at 5 (a0 16) p1) >>> (p2 &&& 31)) &&& (1 : Int32)), r7.1, r7.2.1, r7.2.2)
set_option maxHeartbeats 4000000 in
set_option maxRecDepth 100000 in
theorem c_X11_quarrel (l : Launch) (hz : Nat) (D : va_G) (ad : Nat → Nat) (ck : Nat → ClassId) (f0 : Nat → Int32) (g0 : Nat → Int64) (a0 : Nat → Nat → Int32) (p1 : Int32) (p2 : Int32) (p3 : Int32) (out : (Int32 × ST)) (hF : F_X11_quarrel f0 g0 a0 p1 p2 p3 = some out) : Met l yX11_quarrel wsX11_quarrel ({ frames := 2, cells := 0, slots := 0, locals := 46 }) (kW hz D vwCl (tX ck) (wX ad ck f0 g0 a0) [.ref (ad 0), .int p1, .int p2, .int p3]) (kQ D vwCl (some (.int out.1)) (wX ad ck f0 g0 a0) (wX ad ck out.2.1 out.2.2.1 out.2.2.2)) 0 0 (kAd (wX ad ck f0 g0 a0)) := by
  refine Met.ofW (cc := cX11_quarrel) (maxL := 6) (ret := (some .int)) (by decide) rfl ?_
  intro p e s m args below meth c s₁ B hml hv
  obtain ⟨rfl, hP, hE, hD0⟩ := hv
  have hx := B.exec
  have hb := B.bytes
  have hr := B.returns
  have hts := atoms_spec (ws := wsX11_quarrel) B.pre
  have hown : s.vm.findClass RX11 = some m.cls := findClass_of_methodNamed B.named
  have hlocks := B.notSynchronized
  have hK := hE.1
  have hnA := kAd_up hD0
  have hD := kD_self hD0
  have hS : va_S (kAd (wX ad ck f0 g0 a0)) s.heap s.heap [] := va_S.rf
  have hiX11 : ∀ w ∈ u_ws RX11 TX11 10, w ∈ wsX11_quarrel := by decide +kernel
  have hiX3 : ∀ w ∈ u_ws RX3 TX3 10, w ∈ wsX11_quarrel := by decide +kernel
  have hiX9 : ∀ w ∈ u_ws RX9 TX9 4, w ∈ wsX11_quarrel := by decide +kernel
  have hf19 := hts (.fieldLink RX11 19 "SpeltByFriends" "here" "LSpeltByFriends$Town;") (by decide +kernel)
  have hf92 := hts (.fieldLink RX11 92 "SpeltByFriends$Town" "ledger" "LSpeltByFriends$Ledger;") (by decide +kernel)
  have hf126 := hts (.fieldLink RX11 126 "SpeltByFriends$Ledger" "foes" "[I") (by decide +kernel)
  have hl := lv_entry ([.ref (ad 0), .int p1, .int p2, .int p3]) (n := 6) (Nat.le_of_ble_eq_true rfl)
  rw [lg_entry_eq]
  generalize (lg_sl ([.ref (ad 0), .int p1, .int p2, .int p3]) ++ List.replicate (6 - (lg_sl ([.ref (ad 0), .int p1, .int p2, .int p3])).length) Slot.unset).toArray = ls at hl ⊢
  have hl : lv_has ls 6 [(0, .ref (ad 0)), (1, .int p1), (2, .int p2), (3, .int p3)] := hl
  obtain ⟨r, hF, hp⟩ : ∃ r, F_X11_quarrel f0 g0 a0 p1 p2 p3 = some r ∧ r = out := ⟨out, hF, rfl⟩
  unfold F_X11_quarrel at hF
  refine lv_aload_n hx hb dX11_quarrel_0 rfl (lv_at hl 0 rfl) ?_
  refine va_get (D := D) (ci := 11) (v := .ref (ad 2)) (C := RX11) (T := TX11) (N := 10) hx hb hts hiX11 hown hK hP 0 rfl rfl 1 (by decide) hf19 (fun _ h9 => h9) rfl dX11_quarrel_1 ?_
  refine lv_iload_n hx hb dX11_quarrel_4 rfl (lv_at hl 1 rfl) ?_
  refine kS_b (va_runV (As := [.int p1]) (rest := []) ⟨hx, hb, hml, hown, hts⟩ (c_X9_has l hz D ad ck f0 g0 a0 p1) (cwV 1 hts gX11_quarrel_X9_has rfl rfl rfl ⟨rfl, pX9_has⟩ ⟨Nat.le_of_ble_eq_true rfl, Nat.le_of_ble_eq_true rfl⟩) (kR.preV (va_recv hK hP (ci := 9) (q0 := 2) rfl rfl) hP (hE.kept hS hnA)) rfl rfl hl.1 rfl (lv_room (Nat.le_of_ble_eq_true rfl)) dX11_quarrel_5 ⟨Nat.le_refl _, Nat.le_refl _⟩) (fun hz1 => ?_)
  refine lv_if_eq (tgt := 27) hx hb dX11_quarrel_8 (by decide) (fun hc2 => ?_) (fun hc2 => ?_)
  · have hF := it_p hc2 hF
    refine lv_bipush (v := (-101)) hx hb dX11_quarrel_27 (by decide) ?_
    have hF := (Option.some.inj hF).trans hp
    subst hF
    exact W.iret hx hb hr (fun t ht hW => ⟨rfl, by rw [ht]; exact hP, hS.F ht⟩) hS.2.2 dX11_quarrel_29
  · have hF := it_n hc2 hF
    refine lv_aload_n hx hb dX11_quarrel_11 rfl (lv_at hl 0 rfl) ?_
    refine va_get (D := D) (ci := 11) (v := .ref (ad 2)) (C := RX11) (T := TX11) (N := 10) hx hb hts hiX11 hown hK hP 0 rfl rfl 1 (by decide) hf19 (fun _ h9 => h9) rfl dX11_quarrel_12 ?_
    refine lv_iload_n hx hb dX11_quarrel_15 rfl (lv_at hl 2 rfl) ?_
    refine kS_b (va_runV (As := [.int p2]) (rest := []) ⟨hx, hb, hml, hown, hts⟩ (c_X9_has l hz D ad ck f0 g0 a0 p2) (cwV 1 hts gX11_quarrel_X9_has rfl rfl rfl ⟨rfl, pX9_has⟩ ⟨Nat.le_of_ble_eq_true rfl, Nat.le_of_ble_eq_true rfl⟩) (kR.preV (va_recv hK hP (ci := 9) (q0 := 2) rfl rfl) hP (hE.kept hS hnA)) rfl rfl hl.1 rfl (lv_room (Nat.le_of_ble_eq_true rfl)) dX11_quarrel_16 ⟨Nat.le_refl _, Nat.le_refl _⟩) (fun hz3 => ?_)
    refine lv_if_eq (tgt := 27) hx hb dX11_quarrel_19 (by decide) (fun hc4 => ?_) (fun hc4 => ?_)
    · have hF := it_p hc4 hF
      refine lv_bipush (v := (-101)) hx hb dX11_quarrel_27 (by decide) ?_
      have hF := (Option.some.inj hF).trans hp
      subst hF
      exact W.iret hx hb hr (fun t ht hW => ⟨rfl, by rw [ht]; exact hP, hS.F ht⟩) hS.2.2 dX11_quarrel_29
    · have hF := it_n hc4 hF
      refine lv_iload_n hx hb dX11_quarrel_22 rfl (lv_at hl 1 rfl) ?_
      refine lv_iload_n hx hb dX11_quarrel_23 rfl (lv_at hl 2 rfl) ?_
      refine lv_icmp_ne (tgt := 30) hx hb dX11_quarrel_24 (by decide) (fun hc5 => ?_) (fun hc5 => ?_)
      · have hF := it_n hc5 hF
        refine lv_aload_n hx hb dX11_quarrel_30 rfl (lv_at hl 0 rfl) ?_
        refine va_get (D := D) (ci := 11) (v := .ref (ad 2)) (C := RX11) (T := TX11) (N := 10) hx hb hts hiX11 hown hK hP 0 rfl rfl 1 (by decide) hf19 (fun _ h9 => h9) rfl dX11_quarrel_31 ?_
        refine va_get (D := D) (ci := 9) (v := .ref (ad 3)) (C := RX9) (T := TX9) (N := 4) hx hb hts hiX9 hown hK hP 2 rfl rfl 0 (by decide) hf92 (fun _ h9 => h9) rfl dX11_quarrel_34 ?_
        refine lv_astore (lv' := [(4, .ref (ad 3)), (0, .ref (ad 0)), (1, .int p1), (2, .int p2), (3, .int p3)]) hx hb dX11_quarrel_37 hl (by decide) rfl (fun ls hl => ?_)
        refine lv_aload hx hb dX11_quarrel_39 (lv_at hl 0 rfl) ?_
        refine va_get (D := D) (ci := 3) (v := .ref (ad 16)) (C := RX3) (T := TX3) (N := 10) hx hb hts hiX3 hown hK hP 3 rfl rfl 2 (by decide) hf126 (fun _ h9 => h9) rfl dX11_quarrel_41 ?_
        refine lv_iload_n hx hb dX11_quarrel_44 rfl (lv_at hl 2 rfl) ?_
        refine kS_i (va_runS (As := [.ref (ad 16), .int p1]) (rest := []) ⟨hx, hb, hml, hown, hts⟩ (c_X11_at l hz D (tX ck) (wX ad ck f0 g0 a0) 16 3 rfl rfl (by decide) p1) (va_cwS 2 hts gX11_quarrel_X11_at rfl rfl rfl pX11_at ⟨Nat.le_of_ble_eq_true rfl, Nat.le_of_ble_eq_true rfl⟩) (kR.preS hP (hE.kept hS hnA)) rfl rfl hl.1 rfl (lv_room (Nat.le_of_ble_eq_true rfl)) dX11_quarrel_45 ⟨Nat.le_refl _, Nat.le_refl _⟩) ?_
        refine lv_iload_n hx hb dX11_quarrel_48 rfl (lv_at hl 3 rfl) ?_
        refine lv_ishr hx hb dX11_quarrel_49 ?_
        refine lv_iconst (v := 1) hx hb dX11_quarrel_50 (by decide) ?_
        refine lv_iand hx hb dX11_quarrel_51 ?_
        refine lv_istore (lv' := [(5, .int (((F_at 5 (a0 16) p1) >>> (p2 &&& 31)) &&& (1 : Int32))), (4, .ref (ad 3)), (0, .ref (ad 0)), (1, .int p1), (2, .int p2), (3, .int p3)]) hx hb dX11_quarrel_52 hl (by decide) rfl (fun ls hl => ?_)
        refine lv_aload hx hb dX11_quarrel_54 (lv_at hl 1 rfl) ?_
        refine lv_iload_n hx hb dX11_quarrel_56 rfl (lv_at hl 3 rfl) ?_
        refine lv_iload_n hx hb dX11_quarrel_57 rfl (lv_at hl 4 rfl) ?_
        refine lv_iload_n hx hb dX11_quarrel_58 rfl (lv_at hl 5 rfl) ?_
        obtain ⟨r6, he6, hF⟩ := bd_s hF
        refine kS_w (va_runV (As := [.int p1, .int p2, .int p3]) (rest := []) ⟨hx, hb, hml, hown, hts⟩ (c_X3_setFoe l hz D ad ck f0 g0 a0 p1 p2 p3 r6 he6) (cwV 3 hts gX11_quarrel_X3_setFoe rfl rfl rfl ⟨rfl, pX3_setFoe⟩ ⟨Nat.le_of_ble_eq_true rfl, Nat.le_of_ble_eq_true rfl⟩) (kW.preV (va_recv hK hP (ci := 3) (q0 := 3) rfl rfl) hP (hE.kept hS hnA) hD hnA) rfl rfl hl.1 rfl (lv_room (Nat.le_of_ble_eq_true rfl)) dX11_quarrel_59 ⟨Nat.le_refl _, Nat.le_refl _⟩) hD hS rfl (fun H locs hP hD hS => ?_)
        refine lv_aload hx hb dX11_quarrel_62 (lv_at hl 1 rfl) ?_
        refine lv_iload_n hx hb dX11_quarrel_64 rfl (lv_at hl 4 rfl) ?_
        refine lv_iload_n hx hb dX11_quarrel_65 rfl (lv_at hl 3 rfl) ?_
        refine lv_iload_n hx hb dX11_quarrel_66 rfl (lv_at hl 5 rfl) ?_
        obtain ⟨r7, he7, hF⟩ := bd_s hF
        refine kS_w (va_runV (As := [.int p2, .int p1, .int p3]) (rest := []) ⟨hx, hb, hml, hown, hts⟩ (c_X3_setFoe l hz D ad ck r6.1 r6.2.1 r6.2.2 p2 p1 p3 r7 he7) (cwV 3 hts gX11_quarrel_X3_setFoe rfl rfl rfl ⟨rfl, pX3_setFoe⟩ ⟨Nat.le_of_ble_eq_true rfl, Nat.le_of_ble_eq_true rfl⟩) (kW.preV (va_recv hK hP (ci := 3) (q0 := 3) rfl rfl) hP (hE.kept hS hnA) hD hnA) rfl rfl hl.1 rfl (lv_room (Nat.le_of_ble_eq_true rfl)) dX11_quarrel_67 ⟨Nat.le_refl _, Nat.le_refl _⟩) hD hS rfl (fun H locs hP hD hS => ?_)
        refine lv_iload hx hb dX11_quarrel_70 (lv_at hl 0 rfl) ?_
        have hF := (Option.some.inj hF).trans hp
        subst hF
        exact W.iret hx hb hr (fun t ht hW => ⟨rfl, by rw [ht]; exact hP, hS.F ht⟩) hS.2.2 dX11_quarrel_72
      · have hF := it_p hc5 hF
        refine lv_bipush (v := (-101)) hx hb dX11_quarrel_27 (by decide) ?_
        have hF := (Option.some.inj hF).trans hp
        subst hF
        exact W.iret hx hb hr (fun t ht hW => ⟨rfl, by rw [ht]; exact hP, hS.F ht⟩) hS.2.2 dX11_quarrel_29

def F_X11_written (f0 : Nat → Int32) (g0 : Nat → Int64) (a0 : Nat → Nat → Int32) (p1 : Int32) (p2 : Int32) : Int32 := if (F_X9_has f0 g0 a0 p1) = 0 then (-101) else if (F_X9_isCompanyOf f0 g0 a0 p1 p2) = 0 then (-102) else if (F_X9_canWrite f0 g0 a0 p1 p2) = 0 then 0 else 1
set_option maxHeartbeats 4000000 in
set_option maxRecDepth 100000 in
theorem c_X11_written (l : Launch) (hz : Nat) (D : va_G) (ad : Nat → Nat) (ck : Nat → ClassId) (f0 : Nat → Int32) (g0 : Nat → Int64) (a0 : Nat → Nat → Int32) (p1 : Int32) (p2 : Int32) : Met l yX11_written wsX11_written ({ frames := 4, cells := 0, slots := 0, locals := 94 }) (kR hz D vwCl (tX ck) (wX ad ck f0 g0 a0) [.ref (ad 0), .int p1, .int p2]) (kZi (F_X11_written f0 g0 a0 p1 p2)) 0 0 (fun _ => False) := by
  generalize hF : F_X11_written f0 g0 a0 p1 p2 = out
  refine Met.ofW (cc := cX11_written) (maxL := 3) (ret := (some .int)) (by decide) rfl ?_
  intro p e s m args below meth c s₁ B hml hv
  obtain ⟨rfl, hP, hE⟩ := hv
  have hx := B.exec
  have hb := B.bytes
  have hr := B.returns
  have hts := atoms_spec (ws := wsX11_written) B.pre
  have hown : s.vm.findClass RX11 = some m.cls := findClass_of_methodNamed B.named
  have hlocks := B.notSynchronized
  have hK := hE.1
  have hiX11 : ∀ w ∈ u_ws RX11 TX11 10, w ∈ wsX11_written := by decide +kernel
  have hf19 := hts (.fieldLink RX11 19 "SpeltByFriends" "here" "LSpeltByFriends$Town;") (by decide +kernel)
  have hl := lv_entry ([.ref (ad 0), .int p1, .int p2]) (n := 3) (Nat.le_of_ble_eq_true rfl)
  rw [lg_entry_eq]
  generalize (lg_sl ([.ref (ad 0), .int p1, .int p2]) ++ List.replicate (3 - (lg_sl ([.ref (ad 0), .int p1, .int p2])).length) Slot.unset).toArray = ls at hl ⊢
  have hl : lv_has ls 3 [(0, .ref (ad 0)), (1, .int p1), (2, .int p2)] := hl
  obtain ⟨r, hF, hp⟩ : ∃ r, F_X11_written f0 g0 a0 p1 p2 = r ∧ r = out := ⟨out, hF, rfl⟩
  unfold F_X11_written at hF
  refine lv_aload_n hx hb dX11_written_0 rfl (lv_at hl 0 rfl) ?_
  refine va_get (D := D) (ci := 11) (v := .ref (ad 2)) (C := RX11) (T := TX11) (N := 10) hx hb hts hiX11 hown hK hP 0 rfl rfl 1 (by decide) hf19 (fun _ h9 => h9) rfl dX11_written_1 ?_
  refine lv_iload_n hx hb dX11_written_4 rfl (lv_at hl 1 rfl) ?_
  refine kS_b (va_runV (As := [.int p1]) (rest := []) ⟨hx, hb, hml, hown, hts⟩ (c_X9_has l hz D ad ck f0 g0 a0 p1) (cwV 1 hts gX11_written_X9_has rfl rfl rfl ⟨rfl, pX9_has⟩ ⟨Nat.le_of_ble_eq_true rfl, Nat.le_of_ble_eq_true rfl⟩) (kR.preV (va_recv hK hP (ci := 9) (q0 := 2) rfl rfl) hP hE) rfl rfl hl.1 rfl (lv_room (Nat.le_of_ble_eq_true rfl)) dX11_written_5 ⟨Nat.le_refl _, Nat.le_refl _⟩) (fun hz1 => ?_)
  refine lv_if_ne (tgt := 14) hx hb dX11_written_8 (by decide) (fun hc2 => ?_) (fun hc2 => ?_)
  · have hF := it_n hc2 hF
    refine lv_aload_n hx hb dX11_written_14 rfl (lv_at hl 0 rfl) ?_
    refine va_get (D := D) (ci := 11) (v := .ref (ad 2)) (C := RX11) (T := TX11) (N := 10) hx hb hts hiX11 hown hK hP 0 rfl rfl 1 (by decide) hf19 (fun _ h9 => h9) rfl dX11_written_15 ?_
    refine lv_iload_n hx hb dX11_written_18 rfl (lv_at hl 1 rfl) ?_
    refine lv_iload_n hx hb dX11_written_19 rfl (lv_at hl 2 rfl) ?_
    refine kS_b (va_runV (As := [.int p1, .int p2]) (rest := []) ⟨hx, hb, hml, hown, hts⟩ (c_X9_isCompanyOf l hz D ad ck f0 g0 a0 p1 p2) (cwV 2 hts gX11_written_X9_isCompanyOf rfl rfl rfl ⟨rfl, pX9_isCompanyOf⟩ ⟨Nat.le_of_ble_eq_true rfl, Nat.le_of_ble_eq_true rfl⟩) (kR.preV (va_recv hK hP (ci := 9) (q0 := 2) rfl rfl) hP hE) rfl rfl hl.1 rfl (lv_room (Nat.le_of_ble_eq_true rfl)) dX11_written_20 ⟨Nat.le_refl _, Nat.le_refl _⟩) (fun hz3 => ?_)
    refine lv_if_ne (tgt := 29) hx hb dX11_written_23 (by decide) (fun hc4 => ?_) (fun hc4 => ?_)
    · have hF := it_n hc4 hF
      refine lv_aload_n hx hb dX11_written_29 rfl (lv_at hl 0 rfl) ?_
      refine va_get (D := D) (ci := 11) (v := .ref (ad 2)) (C := RX11) (T := TX11) (N := 10) hx hb hts hiX11 hown hK hP 0 rfl rfl 1 (by decide) hf19 (fun _ h9 => h9) rfl dX11_written_30 ?_
      refine lv_iload_n hx hb dX11_written_33 rfl (lv_at hl 1 rfl) ?_
      refine lv_iload_n hx hb dX11_written_34 rfl (lv_at hl 2 rfl) ?_
      refine kS_b (va_runV (As := [.int p1, .int p2]) (rest := []) ⟨hx, hb, hml, hown, hts⟩ (c_X9_canWrite l hz D ad ck f0 g0 a0 p1 p2) (cwV 2 hts gX11_written_X9_canWrite rfl rfl rfl ⟨rfl, pX9_canWrite⟩ ⟨Nat.le_of_ble_eq_true rfl, Nat.le_of_ble_eq_true rfl⟩) (kR.preV (va_recv hK hP (ci := 9) (q0 := 2) rfl rfl) hP hE) rfl rfl hl.1 rfl (lv_room (Nat.le_of_ble_eq_true rfl)) dX11_written_35 ⟨Nat.le_refl _, Nat.le_refl _⟩) (fun hz5 => ?_)
      refine lv_if_eq (tgt := 45) hx hb dX11_written_38 (by decide) (fun hc6 => ?_) (fun hc6 => ?_)
      · have hF := it_p hc6 hF
        refine lv_iconst (v := 0) hx hb dX11_written_45 (by decide) ?_
        exact W.iret hx hb hr (fun t ht hW => ⟨_, rfl, hF.trans hp, ht⟩) (fun q hq => by cases hq) dX11_written_46
      · have hF := it_n hc6 hF
        refine lv_iconst (v := 1) hx hb dX11_written_41 (by decide) ?_
        refine lv_goto (tgt := 46) hx hb dX11_written_42 (by decide) ?_
        exact W.iret hx hb hr (fun t ht hW => ⟨_, rfl, hF.trans hp, ht⟩) (fun q hq => by cases hq) dX11_written_46
    · have hF := it_p hc4 hF
      refine lv_bipush (v := (-102)) hx hb dX11_written_26 (by decide) ?_
      exact W.iret hx hb hr (fun t ht hW => ⟨_, rfl, hF.trans hp, ht⟩) (fun q hq => by cases hq) dX11_written_28
  · have hF := it_p hc2 hF
    refine lv_bipush (v := (-101)) hx hb dX11_written_11 (by decide) ?_
    exact W.iret hx hb hr (fun t ht hW => ⟨_, rfl, hF.trans hp, ht⟩) (fun q hq => by cases hq) dX11_written_13

def N_X11_moves_33 (f33 : Nat → Int32) (g33 : Nat → Int64) (a33 : Nat → Nat → Int32) (x1_33 : Int32) (x2_33 : Int32) : Option (Int32 × ST) := if (f33 2) < 40 then (F_X7_planMoves (upd f33 2 ((f33 2) + (1 : Int32))) g33 a33 x1_33).bind fun r5 => if r5.1 = (-1) then some (r5.1, r5.2.1, r5.2.2.1, r5.2.2.2) else if x2_33 = 0 then some (r5.1, r5.2.1, r5.2.2.1, r5.2.2.2) else if (F_X9_has r5.2.1 r5.2.2.1 r5.2.2.2 (x2_33 - (10 : Int32))) = 0 then some ((-1), r5.2.1, r5.2.2.1, r5.2.2.2) else some ((F_X11_roomIn (r5.2.1 15) (x2_33 - (10 : Int32))), r5.2.1, r5.2.2.1, r5.2.2.2) else some ((-103), f33, g33, a33)
def F_X11_moves (f0 : Nat → Int32) (g0 : Nat → Int64) (a0 : Nat → Nat → Int32) (p1 : Int32) (p2 : Int32) : Option (Int32 × ST) := if (F_X9_has f0 g0 a0 p1) = 0 then some ((-101), f0, g0, a0) else if p2 = 0 then N_X11_moves_33 f0 g0 a0 p1 p2 else if p2 < 10 then some ((-102), f0, g0, a0) else if p2 < 15 then N_X11_moves_33 f0 g0 a0 p1 p2 else some ((-102), f0, g0, a0)
set_option maxHeartbeats 4000000 in
set_option maxRecDepth 100000 in
theorem c_X11_moves (l : Launch) (hz : Nat) (D : va_G) (ad : Nat → Nat) (ck : Nat → ClassId) (f0 : Nat → Int32) (g0 : Nat → Int64) (a0 : Nat → Nat → Int32) (p1 : Int32) (p2 : Int32) (out : (Int32 × ST)) (hF : F_X11_moves f0 g0 a0 p1 p2 = some out) : Met l yX11_moves wsX11_moves ({ frames := 5, cells := 0, slots := 0, locals := 121 }) (kW hz D vwCl (tX ck) (wX ad ck f0 g0 a0) [.ref (ad 0), .int p1, .int p2]) (kQ D vwCl (some (.int out.1)) (wX ad ck f0 g0 a0) (wX ad ck out.2.1 out.2.2.1 out.2.2.2)) 0 0 (kAd (wX ad ck f0 g0 a0)) := by
  refine Met.ofW (cc := cX11_moves) (maxL := 4) (ret := (some .int)) (by decide) rfl ?_
  intro p e s m args below meth c s₁ B hml hv
  obtain ⟨rfl, hP, hE, hD0⟩ := hv
  have hx := B.exec
  have hb := B.bytes
  have hr := B.returns
  have hts := atoms_spec (ws := wsX11_moves) B.pre
  have hown : s.vm.findClass RX11 = some m.cls := findClass_of_methodNamed B.named
  have hlocks := B.notSynchronized
  have hK := hE.1
  have hnA := kAd_up hD0
  have hD := kD_self hD0
  have hS : va_S (kAd (wX ad ck f0 g0 a0)) s.heap s.heap [] := va_S.rf
  have hiX11 : ∀ w ∈ u_ws RX11 TX11 10, w ∈ wsX11_moves := by decide +kernel
  have hiX7 : ∀ w ∈ u_ws RX7 TX7 4, w ∈ wsX11_moves := by decide +kernel
  have hf19 := hts (.fieldLink RX11 19 "SpeltByFriends" "here" "LSpeltByFriends$Town;") (by decide +kernel)
  have hf33 := hts (.fieldLink RX11 33 "SpeltByFriends" "plans" "LSpeltByFriends$Plans;") (by decide +kernel)
  have hf140 := hts (.fieldLink RX11 140 "SpeltByFriends" "movesDone" "I") (by decide +kernel)
  have hf147 := hts (.fieldLink RX11 147 "SpeltByFriends$Plans" "bestRooms" "I") (by decide +kernel)
  have hN_33 : ∀ (f33 : Nat → Int32) (g33 : Nat → Int64) (a33 : Nat → Nat → Int32) (H : Heap) (locs : List Loc) (x1_33 : Int32) (x2_33 : Int32) (ls : Array Slot), va_P D vwCl (wX ad ck f33 g33 a33) H → va_D (kAd (wX ad ck f0 g0 a0)) (wX ad ck f33 g33 a33) → va_S (kAd (wX ad ck f0 g0 a0)) s.heap H locs → lv_has ls 4 [(0, .ref (ad 0)), (1, .int x1_33), (2, .int x2_33)] → ∀ r : (Int32 × ST), N_X11_moves_33 f33 g33 a33 x1_33 x2_33 = some r → (fun r => r = out) r → W p l e (headSpec wsX11_moves ({ frames := 5, cells := 0, slots := 0, locals := 121 })).room s m [.ref (ad 0), .int p1, .int p2].toArray below meth c H locs 0 0 (MQ below (kQ D vwCl (some (.int out.1)) (wX ad ck f0 g0 a0) (wX ad ck out.2.1 out.2.2.1 out.2.2.2)) [.ref (ad 0), .int p1, .int p2].toArray s 0 0 (kAd (wX ad ck f0 g0 a0))) (F0 m 33 ls []) := by
    intro f33 g33 a33 H locs x1_33 x2_33 ls hP hD hS hl r hF hp
    unfold N_X11_moves_33 at hF
    refine lv_aload_n hx hb dX11_moves_33 rfl (lv_at hl 0 rfl) ?_
    refine va_get (D := D) (ci := 11) (v := .int (f33 2)) (C := RX11) (T := TX11) (N := 10) hx hb hts hiX11 hown hK hP 0 rfl rfl 8 (by decide) hf140 (fun _ h9 => h9) rfl dX11_moves_34 ?_
    refine lv_bipush (v := 40) hx hb dX11_moves_37 (by decide) ?_
    refine lv_icmp_lt (tgt := 45) hx hb dX11_moves_39 (by decide) (fun hc4 => ?_) (fun hc4 => ?_)
    · have hF := it_p hc4 hF
      refine lv_aload_n hx hb dX11_moves_45 rfl (lv_at hl 0 rfl) ?_
      refine lv_dup hx hb dX11_moves_46 rfl ?_
      refine va_get (D := D) (ci := 11) (v := .int (f33 2)) (C := RX11) (T := TX11) (N := 10) hx hb hts hiX11 hown hK hP 0 rfl rfl 8 (by decide) hf140 (fun _ h9 => h9) rfl dX11_moves_47 ?_
      refine lv_iconst (v := 1) hx hb dX11_moves_50 (by decide) ?_
      refine lv_iadd hx hb dX11_moves_51 ?_
      refine va_put (D := D) (ci := 11) (v := .int ((f33 2) + (1 : Int32))) (ty := .int) (C := RX11) (T := TX11) (N := 10) hx hb hts hiX11 tyX11 tyX11_ok nmX11 hown hK hP hD hS 0 rfl rfl 8 (by decide) hf140 (fun _ h9 => h9) rfl (tyX11_ok 8 (by decide)) rfl rfl (Nat.le_of_ble_eq_true rfl) dX11_moves_52 (fun H locs hP hD hS => ?_)
      have hP := kPe (ef_wX0_8 ad ck f33 g33 a33 ((f33 2) + (1 : Int32))) hP
      have hD := kDe (ef_wX0_8 ad ck f33 g33 a33 ((f33 2) + (1 : Int32))) hD
      refine lv_aload_n hx hb dX11_moves_55 rfl (lv_at hl 0 rfl) ?_
      refine va_get (D := D) (ci := 11) (v := .ref (ad 5)) (C := RX11) (T := TX11) (N := 10) hx hb hts hiX11 hown hK hP 0 rfl rfl 3 (by decide) hf33 (fun _ h9 => h9) rfl dX11_moves_56 ?_
      refine lv_aload_n hx hb dX11_moves_59 rfl (lv_at hl 0 rfl) ?_
      refine va_get (D := D) (ci := 11) (v := .ref (ad 2)) (C := RX11) (T := TX11) (N := 10) hx hb hts hiX11 hown hK hP 0 rfl rfl 1 (by decide) hf19 (fun _ h9 => h9) rfl dX11_moves_60 ?_
      refine lv_iload_n hx hb dX11_moves_63 rfl (lv_at hl 1 rfl) ?_
      obtain ⟨r5, he5, hF⟩ := bd_s hF
      refine kS_w (va_runV (As := [.ref (ad 2), .int x1_33]) (rest := []) ⟨hx, hb, hml, hown, hts⟩ (c_X7_planMoves l hz D ad ck (upd f33 2 ((f33 2) + (1 : Int32))) g33 a33 x1_33 r5 he5) (cwV 2 hts gX11_moves_X7_planMoves rfl rfl rfl ⟨rfl, pX7_planMoves⟩ ⟨Nat.le_of_ble_eq_true rfl, Nat.le_of_ble_eq_true rfl⟩) (kW.preV (va_recv hK hP (ci := 7) (q0 := 5) rfl rfl) hP (hE.kept hS hnA) hD hnA) rfl rfl hl.1 rfl (lv_room (Nat.le_of_ble_eq_true rfl)) dX11_moves_64 ⟨Nat.le_refl _, Nat.le_refl _⟩) hD hS rfl (fun H locs hP hD hS => ?_)
      refine lv_istore_n (lv' := [(3, .int r5.1), (0, .ref (ad 0)), (1, .int x1_33), (2, .int x2_33)]) hx hb dX11_moves_67 rfl hl (by decide) rfl (fun ls hl => ?_)
      refine lv_iload_n hx hb dX11_moves_68 rfl (lv_at hl 0 rfl) ?_
      refine lv_iconst (v := (-1)) hx hb dX11_moves_69 (by decide) ?_
      refine lv_icmp_eq (tgt := 77) hx hb dX11_moves_70 (by decide) (fun hc6 => ?_) (fun hc6 => ?_)
      · have hF := it_p hc6 hF
        refine lv_iload_n hx hb dX11_moves_77 rfl (lv_at hl 0 rfl) ?_
        have hF := (Option.some.inj hF).trans hp
        subst hF
        exact W.iret hx hb hr (fun t ht hW => ⟨rfl, by rw [ht]; exact hP, hS.F ht⟩) hS.2.2 dX11_moves_78
      · have hF := it_n hc6 hF
        refine lv_iload_n hx hb dX11_moves_73 rfl (lv_at hl 3 rfl) ?_
        refine lv_if_ne (tgt := 79) hx hb dX11_moves_74 (by decide) (fun hc7 => ?_) (fun hc7 => ?_)
        · have hF := it_n hc7 hF
          refine lv_aload_n hx hb dX11_moves_79 rfl (lv_at hl 1 rfl) ?_
          refine va_get (D := D) (ci := 11) (v := .ref (ad 2)) (C := RX11) (T := TX11) (N := 10) hx hb hts hiX11 hown hK hP 0 rfl rfl 1 (by decide) hf19 (fun _ h9 => h9) rfl dX11_moves_80 ?_
          refine lv_iload_n hx hb dX11_moves_83 rfl (lv_at hl 3 rfl) ?_
          refine lv_bipush (v := 10) hx hb dX11_moves_84 (by decide) ?_
          refine lv_isub hx hb dX11_moves_86 ?_
          refine kS_b (va_runV (As := [.int (x2_33 - (10 : Int32))]) (rest := []) ⟨hx, hb, hml, hown, hts⟩ (c_X9_has l hz D ad ck r5.2.1 r5.2.2.1 r5.2.2.2 (x2_33 - (10 : Int32))) (cwV 1 hts gX11_moves_X9_has rfl rfl rfl ⟨rfl, pX9_has⟩ ⟨Nat.le_of_ble_eq_true rfl, Nat.le_of_ble_eq_true rfl⟩) (kR.preV (va_recv hK hP (ci := 9) (q0 := 2) rfl rfl) hP (hE.kept hS hnA)) rfl rfl hl.1 rfl (lv_room (Nat.le_of_ble_eq_true rfl)) dX11_moves_87 ⟨Nat.le_refl _, Nat.le_refl _⟩) (fun hz8 => ?_)
          refine lv_if_eq (tgt := 110) hx hb dX11_moves_90 (by decide) (fun hc9 => ?_) (fun hc9 => ?_)
          · have hF := it_p hc9 hF
            refine lv_iconst (v := (-1)) hx hb dX11_moves_110 (by decide) ?_
            have hF := (Option.some.inj hF).trans hp
            subst hF
            exact W.iret hx hb hr (fun t ht hW => ⟨rfl, by rw [ht]; exact hP, hS.F ht⟩) hS.2.2 dX11_moves_111
          · have hF := it_n hc9 hF
            refine lv_aload_n hx hb dX11_moves_93 rfl (lv_at hl 1 rfl) ?_
            refine va_get (D := D) (ci := 11) (v := .ref (ad 5)) (C := RX11) (T := TX11) (N := 10) hx hb hts hiX11 hown hK hP 0 rfl rfl 3 (by decide) hf33 (fun _ h9 => h9) rfl dX11_moves_94 ?_
            refine va_get (D := D) (ci := 7) (v := .int (r5.2.1 15)) (C := RX7) (T := TX7) (N := 4) hx hb hts hiX7 hown hK hP 5 rfl rfl 3 (by decide) hf147 (fun _ h9 => h9) rfl dX11_moves_97 ?_
            refine lv_iload_n hx hb dX11_moves_100 rfl (lv_at hl 3 rfl) ?_
            refine lv_bipush (v := 10) hx hb dX11_moves_101 (by decide) ?_
            refine lv_isub hx hb dX11_moves_103 ?_
            refine kS_i (va_runS (As := [.int (r5.2.1 15), .int (x2_33 - (10 : Int32))]) (rest := []) ⟨hx, hb, hml, hown, hts⟩ (c_X11_roomIn l hz D (tX ck) (r5.2.1 15) (x2_33 - (10 : Int32))) (va_cwS 2 hts gX11_moves_X11_roomIn rfl rfl rfl pX11_roomIn ⟨Nat.le_of_ble_eq_true rfl, Nat.le_of_ble_eq_true rfl⟩) (kR.preS kP_nil (hE.kept hS hnA)) rfl rfl hl.1 rfl (lv_room (Nat.le_of_ble_eq_true rfl)) dX11_moves_104 ⟨Nat.le_refl _, Nat.le_refl _⟩) ?_
            refine lv_goto (tgt := 111) hx hb dX11_moves_107 (by decide) ?_
            have hF := (Option.some.inj hF).trans hp
            subst hF
            exact W.iret hx hb hr (fun t ht hW => ⟨rfl, by rw [ht]; exact hP, hS.F ht⟩) hS.2.2 dX11_moves_111
        · have hF := it_p hc7 hF
          refine lv_iload_n hx hb dX11_moves_77 rfl (lv_at hl 0 rfl) ?_
          have hF := (Option.some.inj hF).trans hp
          subst hF
          exact W.iret hx hb hr (fun t ht hW => ⟨rfl, by rw [ht]; exact hP, hS.F ht⟩) hS.2.2 dX11_moves_78
    · have hF := it_n hc4 hF
      refine lv_bipush (v := (-103)) hx hb dX11_moves_42 (by decide) ?_
      have hF := (Option.some.inj hF).trans hp
      subst hF
      exact W.iret hx hb hr (fun t ht hW => ⟨rfl, by rw [ht]; exact hP, hS.F ht⟩) hS.2.2 dX11_moves_44
  have hl := lv_entry ([.ref (ad 0), .int p1, .int p2]) (n := 4) (Nat.le_of_ble_eq_true rfl)
  rw [lg_entry_eq]
  generalize (lg_sl ([.ref (ad 0), .int p1, .int p2]) ++ List.replicate (4 - (lg_sl ([.ref (ad 0), .int p1, .int p2])).length) Slot.unset).toArray = ls at hl ⊢
  have hl : lv_has ls 4 [(0, .ref (ad 0)), (1, .int p1), (2, .int p2)] := hl
  obtain ⟨r, hF, hp⟩ : ∃ r, F_X11_moves f0 g0 a0 p1 p2 = some r ∧ r = out := ⟨out, hF, rfl⟩
  unfold F_X11_moves at hF
  refine lv_aload_n hx hb dX11_moves_0 rfl (lv_at hl 0 rfl) ?_
  refine va_get (D := D) (ci := 11) (v := .ref (ad 2)) (C := RX11) (T := TX11) (N := 10) hx hb hts hiX11 hown hK hP 0 rfl rfl 1 (by decide) hf19 (fun _ h9 => h9) rfl dX11_moves_1 ?_
  refine lv_iload_n hx hb dX11_moves_4 rfl (lv_at hl 1 rfl) ?_
  refine kS_b (va_runV (As := [.int p1]) (rest := []) ⟨hx, hb, hml, hown, hts⟩ (c_X9_has l hz D ad ck f0 g0 a0 p1) (cwV 1 hts gX11_moves_X9_has rfl rfl rfl ⟨rfl, pX9_has⟩ ⟨Nat.le_of_ble_eq_true rfl, Nat.le_of_ble_eq_true rfl⟩) (kR.preV (va_recv hK hP (ci := 9) (q0 := 2) rfl rfl) hP (hE.kept hS hnA)) rfl rfl hl.1 rfl (lv_room (Nat.le_of_ble_eq_true rfl)) dX11_moves_5 ⟨Nat.le_refl _, Nat.le_refl _⟩) (fun hz1 => ?_)
  refine lv_if_ne (tgt := 14) hx hb dX11_moves_8 (by decide) (fun hc2 => ?_) (fun hc2 => ?_)
  · have hF := it_n hc2 hF
    refine lv_iload_n hx hb dX11_moves_14 rfl (lv_at hl 2 rfl) ?_
    refine lv_if_eq (tgt := 33) hx hb dX11_moves_15 (by decide) (fun hc3 => ?_) (fun hc3 => ?_)
    · have hF := it_p hc3 hF
      exact hN_33 f0 g0 a0 _ _ p1 p2 ls hP hD hS (lv_sub hl [0, 1, 2] rfl) _ hF hp
    · have hF := it_n hc3 hF
      refine lv_iload_n hx hb dX11_moves_18 rfl (lv_at hl 2 rfl) ?_
      refine lv_bipush (v := 10) hx hb dX11_moves_19 (by decide) ?_
      refine lv_icmp_lt (tgt := 30) hx hb dX11_moves_21 (by decide) (fun hc10 => ?_) (fun hc10 => ?_)
      · have hF := it_p hc10 hF
        refine lv_bipush (v := (-102)) hx hb dX11_moves_30 (by decide) ?_
        have hF := (Option.some.inj hF).trans hp
        subst hF
        exact W.iret hx hb hr (fun t ht hW => ⟨rfl, by rw [ht]; exact hP, hS.F ht⟩) hS.2.2 dX11_moves_32
      · have hF := it_n hc10 hF
        refine lv_iload_n hx hb dX11_moves_24 rfl (lv_at hl 2 rfl) ?_
        refine lv_bipush (v := 15) hx hb dX11_moves_25 (by decide) ?_
        refine lv_icmp_lt (tgt := 33) hx hb dX11_moves_27 (by decide) (fun hc11 => ?_) (fun hc11 => ?_)
        · have hF := it_p hc11 hF
          exact hN_33 f0 g0 a0 _ _ p1 p2 ls hP hD hS (lv_sub hl [0, 1, 2] rfl) _ hF hp
        · have hF := it_n hc11 hF
          refine lv_bipush (v := (-102)) hx hb dX11_moves_30 (by decide) ?_
          have hF := (Option.some.inj hF).trans hp
          subst hF
          exact W.iret hx hb hr (fun t ht hW => ⟨rfl, by rw [ht]; exact hP, hS.F ht⟩) hS.2.2 dX11_moves_32
  · have hF := it_p hc2 hF
    refine lv_bipush (v := (-101)) hx hb dX11_moves_11 (by decide) ?_
    have hF := (Option.some.inj hF).trans hp
    subst hF
    exact W.iret hx hb hr (fun t ht hW => ⟨rfl, by rw [ht]; exact hP, hS.F ht⟩) hS.2.2 dX11_moves_13

def N_X11_days_33 (f33 : Nat → Int32) (g33 : Nat → Int64) (a33 : Nat → Nat → Int32) (x1_33 : Int32) (x2_33 : Int32) : Option (Int32 × ST) := if (f33 5) = 0 then some ((-103), f33, g33, a33) else if (f33 3) < 40 then (F_X7_planDays (upd f33 3 ((f33 3) + (1 : Int32))) g33 a33 x1_33).bind fun r6 => if r6.1 = (-1) then some (r6.1, r6.2.1, r6.2.2.1, r6.2.2.2) else if x2_33 = 0 then some (r6.1, r6.2.1, r6.2.2.1, r6.2.2.2) else if r6.1 ≤ (x2_33 - (10 : Int32)) then some ((-1), r6.2.1, r6.2.2.1, r6.2.2.2) else some ((F_at 3 (r6.2.2.2 27) (x2_33 - (10 : Int32))), r6.2.1, r6.2.2.1, r6.2.2.2) else some ((-103), f33, g33, a33)
def F_X11_days (f0 : Nat → Int32) (g0 : Nat → Int64) (a0 : Nat → Nat → Int32) (p1 : Int32) (p2 : Int32) : Option (Int32 × ST) := if (F_X9_isSetOfPeople f0 g0 a0 p1) = 0 then some ((-102), f0, g0, a0) else if p2 = 0 then N_X11_days_33 f0 g0 a0 p1 p2 else if p2 < 10 then some ((-102), f0, g0, a0) else if p2 < 13 then N_X11_days_33 f0 g0 a0 p1 p2 else some ((-102), f0, g0, a0)
set_option maxHeartbeats 4000000 in
set_option maxRecDepth 100000 in
theorem c_X11_days (l : Launch) (hz : Nat) (D : va_G) (ad : Nat → Nat) (ck : Nat → ClassId) (f0 : Nat → Int32) (g0 : Nat → Int64) (a0 : Nat → Nat → Int32) (p1 : Int32) (p2 : Int32) (out : (Int32 × ST)) (hF : F_X11_days f0 g0 a0 p1 p2 = some out) : Met l yX11_days wsX11_days ({ frames := 6, cells := 0, slots := 0, locals := 141 }) (kW hz D vwCl (tX ck) (wX ad ck f0 g0 a0) [.ref (ad 0), .int p1, .int p2]) (kQ D vwCl (some (.int out.1)) (wX ad ck f0 g0 a0) (wX ad ck out.2.1 out.2.2.1 out.2.2.2)) 0 0 (kAd (wX ad ck f0 g0 a0)) := by
  refine Met.ofW (cc := cX11_days) (maxL := 4) (ret := (some .int)) (by decide) rfl ?_
  intro p e s m args below meth c s₁ B hml hv
  obtain ⟨rfl, hP, hE, hD0⟩ := hv
  have hx := B.exec
  have hb := B.bytes
  have hr := B.returns
  have hts := atoms_spec (ws := wsX11_days) B.pre
  have hown : s.vm.findClass RX11 = some m.cls := findClass_of_methodNamed B.named
  have hlocks := B.notSynchronized
  have hK := hE.1
  have hnA := kAd_up hD0
  have hD := kD_self hD0
  have hS : va_S (kAd (wX ad ck f0 g0 a0)) s.heap s.heap [] := va_S.rf
  have hiX11 : ∀ w ∈ u_ws RX11 TX11 10, w ∈ wsX11_days := by decide +kernel
  have hiX7 : ∀ w ∈ u_ws RX7 TX7 4, w ∈ wsX11_days := by decide +kernel
  have hiX9 : ∀ w ∈ u_ws RX9 TX9 4, w ∈ wsX11_days := by decide +kernel
  have hf19 := hts (.fieldLink RX11 19 "SpeltByFriends" "here" "LSpeltByFriends$Town;") (by decide +kernel)
  have hf33 := hts (.fieldLink RX11 33 "SpeltByFriends" "plans" "LSpeltByFriends$Plans;") (by decide +kernel)
  have hf74 := hts (.fieldLink RX11 74 "SpeltByFriends$Town" "size" "I") (by decide +kernel)
  have hf153 := hts (.fieldLink RX11 153 "SpeltByFriends" "daysDone" "I") (by decide +kernel)
  have hf159 := hts (.fieldLink RX11 159 "SpeltByFriends$Plans" "companies" "[I") (by decide +kernel)
  have hN_33 : ∀ (f33 : Nat → Int32) (g33 : Nat → Int64) (a33 : Nat → Nat → Int32) (H : Heap) (locs : List Loc) (x1_33 : Int32) (x2_33 : Int32) (ls : Array Slot), va_P D vwCl (wX ad ck f33 g33 a33) H → va_D (kAd (wX ad ck f0 g0 a0)) (wX ad ck f33 g33 a33) → va_S (kAd (wX ad ck f0 g0 a0)) s.heap H locs → lv_has ls 4 [(0, .ref (ad 0)), (1, .int x1_33), (2, .int x2_33)] → ∀ r : (Int32 × ST), N_X11_days_33 f33 g33 a33 x1_33 x2_33 = some r → (fun r => r = out) r → W p l e (headSpec wsX11_days ({ frames := 6, cells := 0, slots := 0, locals := 141 })).room s m [.ref (ad 0), .int p1, .int p2].toArray below meth c H locs 0 0 (MQ below (kQ D vwCl (some (.int out.1)) (wX ad ck f0 g0 a0) (wX ad ck out.2.1 out.2.2.1 out.2.2.2)) [.ref (ad 0), .int p1, .int p2].toArray s 0 0 (kAd (wX ad ck f0 g0 a0))) (F0 m 33 ls []) := by
    intro f33 g33 a33 H locs x1_33 x2_33 ls hP hD hS hl r hF hp
    unfold N_X11_days_33 at hF
    refine lv_aload_n hx hb dX11_days_33 rfl (lv_at hl 0 rfl) ?_
    refine va_get (D := D) (ci := 11) (v := .ref (ad 2)) (C := RX11) (T := TX11) (N := 10) hx hb hts hiX11 hown hK hP 0 rfl rfl 1 (by decide) hf19 (fun _ h9 => h9) rfl dX11_days_34 ?_
    refine va_get (D := D) (ci := 9) (v := .int (f33 5)) (C := RX9) (T := TX9) (N := 4) hx hb hts hiX9 hown hK hP 2 rfl rfl 3 (by decide) hf74 (fun _ h9 => h9) rfl dX11_days_37 ?_
    refine lv_if_eq (tgt := 52) hx hb dX11_days_40 (by decide) (fun hc4 => ?_) (fun hc4 => ?_)
    · have hF := it_p hc4 hF
      refine lv_bipush (v := (-103)) hx hb dX11_days_52 (by decide) ?_
      have hF := (Option.some.inj hF).trans hp
      subst hF
      exact W.iret hx hb hr (fun t ht hW => ⟨rfl, by rw [ht]; exact hP, hS.F ht⟩) hS.2.2 dX11_days_54
    · have hF := it_n hc4 hF
      refine lv_aload_n hx hb dX11_days_43 rfl (lv_at hl 0 rfl) ?_
      refine va_get (D := D) (ci := 11) (v := .int (f33 3)) (C := RX11) (T := TX11) (N := 10) hx hb hts hiX11 hown hK hP 0 rfl rfl 9 (by decide) hf153 (fun _ h9 => h9) rfl dX11_days_44 ?_
      refine lv_bipush (v := 40) hx hb dX11_days_47 (by decide) ?_
      refine lv_icmp_lt (tgt := 55) hx hb dX11_days_49 (by decide) (fun hc5 => ?_) (fun hc5 => ?_)
      · have hF := it_p hc5 hF
        refine lv_aload_n hx hb dX11_days_55 rfl (lv_at hl 0 rfl) ?_
        refine lv_dup hx hb dX11_days_56 rfl ?_
        refine va_get (D := D) (ci := 11) (v := .int (f33 3)) (C := RX11) (T := TX11) (N := 10) hx hb hts hiX11 hown hK hP 0 rfl rfl 9 (by decide) hf153 (fun _ h9 => h9) rfl dX11_days_57 ?_
        refine lv_iconst (v := 1) hx hb dX11_days_60 (by decide) ?_
        refine lv_iadd hx hb dX11_days_61 ?_
        refine va_put (D := D) (ci := 11) (v := .int ((f33 3) + (1 : Int32))) (ty := .int) (C := RX11) (T := TX11) (N := 10) hx hb hts hiX11 tyX11 tyX11_ok nmX11 hown hK hP hD hS 0 rfl rfl 9 (by decide) hf153 (fun _ h9 => h9) rfl (tyX11_ok 9 (by decide)) rfl rfl (Nat.le_of_ble_eq_true rfl) dX11_days_62 (fun H locs hP hD hS => ?_)
        have hP := kPe (ef_wX0_9 ad ck f33 g33 a33 ((f33 3) + (1 : Int32))) hP
        have hD := kDe (ef_wX0_9 ad ck f33 g33 a33 ((f33 3) + (1 : Int32))) hD
        refine lv_aload_n hx hb dX11_days_65 rfl (lv_at hl 0 rfl) ?_
        refine va_get (D := D) (ci := 11) (v := .ref (ad 5)) (C := RX11) (T := TX11) (N := 10) hx hb hts hiX11 hown hK hP 0 rfl rfl 3 (by decide) hf33 (fun _ h9 => h9) rfl dX11_days_66 ?_
        refine lv_aload_n hx hb dX11_days_69 rfl (lv_at hl 0 rfl) ?_
        refine va_get (D := D) (ci := 11) (v := .ref (ad 2)) (C := RX11) (T := TX11) (N := 10) hx hb hts hiX11 hown hK hP 0 rfl rfl 1 (by decide) hf19 (fun _ h9 => h9) rfl dX11_days_70 ?_
        refine lv_iload_n hx hb dX11_days_73 rfl (lv_at hl 1 rfl) ?_
        obtain ⟨r6, he6, hF⟩ := bd_s hF
        refine kS_w (va_runV (As := [.ref (ad 2), .int x1_33]) (rest := []) ⟨hx, hb, hml, hown, hts⟩ (c_X7_planDays l hz D ad ck (upd f33 3 ((f33 3) + (1 : Int32))) g33 a33 x1_33 r6 he6) (cwV 2 hts gX11_days_X7_planDays rfl rfl rfl ⟨rfl, pX7_planDays⟩ ⟨Nat.le_of_ble_eq_true rfl, Nat.le_of_ble_eq_true rfl⟩) (kW.preV (va_recv hK hP (ci := 7) (q0 := 5) rfl rfl) hP (hE.kept hS hnA) hD hnA) rfl rfl hl.1 rfl (lv_room (Nat.le_of_ble_eq_true rfl)) dX11_days_74 ⟨Nat.le_refl _, Nat.le_refl _⟩) hD hS rfl (fun H locs hP hD hS => ?_)
        refine lv_istore_n (lv' := [(3, .int r6.1), (0, .ref (ad 0)), (1, .int x1_33), (2, .int x2_33)]) hx hb dX11_days_77 rfl hl (by decide) rfl (fun ls hl => ?_)
        refine lv_iload_n hx hb dX11_days_78 rfl (lv_at hl 0 rfl) ?_
        refine lv_iconst (v := (-1)) hx hb dX11_days_79 (by decide) ?_
        refine lv_icmp_eq (tgt := 87) hx hb dX11_days_80 (by decide) (fun hc7 => ?_) (fun hc7 => ?_)
        · have hF := it_p hc7 hF
          refine lv_iload_n hx hb dX11_days_87 rfl (lv_at hl 0 rfl) ?_
          have hF := (Option.some.inj hF).trans hp
          subst hF
          exact W.iret hx hb hr (fun t ht hW => ⟨rfl, by rw [ht]; exact hP, hS.F ht⟩) hS.2.2 dX11_days_88
        · have hF := it_n hc7 hF
          refine lv_iload_n hx hb dX11_days_83 rfl (lv_at hl 3 rfl) ?_
          refine lv_if_ne (tgt := 89) hx hb dX11_days_84 (by decide) (fun hc8 => ?_) (fun hc8 => ?_)
          · have hF := it_n hc8 hF
            refine lv_iload_n hx hb dX11_days_89 rfl (lv_at hl 3 rfl) ?_
            refine lv_bipush (v := 10) hx hb dX11_days_90 (by decide) ?_
            refine lv_isub hx hb dX11_days_92 ?_
            refine lv_iload_n hx hb dX11_days_93 rfl (lv_at hl 0 rfl) ?_
            refine lv_icmp_ge (tgt := 114) hx hb dX11_days_94 (by decide) (fun hc9 => ?_) (fun hc9 => ?_)
            · have hF := it_p hc9 hF
              refine lv_iconst (v := (-1)) hx hb dX11_days_114 (by decide) ?_
              have hF := (Option.some.inj hF).trans hp
              subst hF
              exact W.iret hx hb hr (fun t ht hW => ⟨rfl, by rw [ht]; exact hP, hS.F ht⟩) hS.2.2 dX11_days_115
            · have hF := it_n hc9 hF
              refine lv_aload_n hx hb dX11_days_97 rfl (lv_at hl 1 rfl) ?_
              refine va_get (D := D) (ci := 11) (v := .ref (ad 5)) (C := RX11) (T := TX11) (N := 10) hx hb hts hiX11 hown hK hP 0 rfl rfl 3 (by decide) hf33 (fun _ h9 => h9) rfl dX11_days_98 ?_
              refine va_get (D := D) (ci := 7) (v := .ref (ad 27)) (C := RX7) (T := TX7) (N := 4) hx hb hts hiX7 hown hK hP 5 rfl rfl 2 (by decide) hf159 (fun _ h9 => h9) rfl dX11_days_101 ?_
              refine lv_iload_n hx hb dX11_days_104 rfl (lv_at hl 3 rfl) ?_
              refine lv_bipush (v := 10) hx hb dX11_days_105 (by decide) ?_
              refine lv_isub hx hb dX11_days_107 ?_
              refine kS_i (va_runS (As := [.ref (ad 27), .int (x2_33 - (10 : Int32))]) (rest := []) ⟨hx, hb, hml, hown, hts⟩ (c_X11_at l hz D (tX ck) (wX ad ck r6.2.1 r6.2.2.1 r6.2.2.2) 27 14 rfl rfl (by decide) (x2_33 - (10 : Int32))) (va_cwS 2 hts gX11_days_X11_at rfl rfl rfl pX11_at ⟨Nat.le_of_ble_eq_true rfl, Nat.le_of_ble_eq_true rfl⟩) (kR.preS hP (hE.kept hS hnA)) rfl rfl hl.1 rfl (lv_room (Nat.le_of_ble_eq_true rfl)) dX11_days_108 ⟨Nat.le_refl _, Nat.le_refl _⟩) ?_
              refine lv_goto (tgt := 115) hx hb dX11_days_111 (by decide) ?_
              have hF := (Option.some.inj hF).trans hp
              subst hF
              exact W.iret hx hb hr (fun t ht hW => ⟨rfl, by rw [ht]; exact hP, hS.F ht⟩) hS.2.2 dX11_days_115
          · have hF := it_p hc8 hF
            refine lv_iload_n hx hb dX11_days_87 rfl (lv_at hl 0 rfl) ?_
            have hF := (Option.some.inj hF).trans hp
            subst hF
            exact W.iret hx hb hr (fun t ht hW => ⟨rfl, by rw [ht]; exact hP, hS.F ht⟩) hS.2.2 dX11_days_88
      · have hF := it_n hc5 hF
        refine lv_bipush (v := (-103)) hx hb dX11_days_52 (by decide) ?_
        have hF := (Option.some.inj hF).trans hp
        subst hF
        exact W.iret hx hb hr (fun t ht hW => ⟨rfl, by rw [ht]; exact hP, hS.F ht⟩) hS.2.2 dX11_days_54
  have hl := lv_entry ([.ref (ad 0), .int p1, .int p2]) (n := 4) (Nat.le_of_ble_eq_true rfl)
  rw [lg_entry_eq]
  generalize (lg_sl ([.ref (ad 0), .int p1, .int p2]) ++ List.replicate (4 - (lg_sl ([.ref (ad 0), .int p1, .int p2])).length) Slot.unset).toArray = ls at hl ⊢
  have hl : lv_has ls 4 [(0, .ref (ad 0)), (1, .int p1), (2, .int p2)] := hl
  obtain ⟨r, hF, hp⟩ : ∃ r, F_X11_days f0 g0 a0 p1 p2 = some r ∧ r = out := ⟨out, hF, rfl⟩
  unfold F_X11_days at hF
  refine lv_aload_n hx hb dX11_days_0 rfl (lv_at hl 0 rfl) ?_
  refine va_get (D := D) (ci := 11) (v := .ref (ad 2)) (C := RX11) (T := TX11) (N := 10) hx hb hts hiX11 hown hK hP 0 rfl rfl 1 (by decide) hf19 (fun _ h9 => h9) rfl dX11_days_1 ?_
  refine lv_iload_n hx hb dX11_days_4 rfl (lv_at hl 1 rfl) ?_
  refine kS_b (va_runV (As := [.int p1]) (rest := []) ⟨hx, hb, hml, hown, hts⟩ (c_X9_isSetOfPeople l hz D ad ck f0 g0 a0 p1) (cwV 1 hts gX11_days_X9_isSetOfPeople rfl rfl rfl ⟨rfl, pX9_isSetOfPeople⟩ ⟨Nat.le_of_ble_eq_true rfl, Nat.le_of_ble_eq_true rfl⟩) (kR.preV (va_recv hK hP (ci := 9) (q0 := 2) rfl rfl) hP (hE.kept hS hnA)) rfl rfl hl.1 rfl (lv_room (Nat.le_of_ble_eq_true rfl)) dX11_days_5 ⟨Nat.le_refl _, Nat.le_refl _⟩) (fun hz1 => ?_)
  refine lv_if_ne (tgt := 14) hx hb dX11_days_8 (by decide) (fun hc2 => ?_) (fun hc2 => ?_)
  · have hF := it_n hc2 hF
    refine lv_iload_n hx hb dX11_days_14 rfl (lv_at hl 2 rfl) ?_
    refine lv_if_eq (tgt := 33) hx hb dX11_days_15 (by decide) (fun hc3 => ?_) (fun hc3 => ?_)
    · have hF := it_p hc3 hF
      exact hN_33 f0 g0 a0 _ _ p1 p2 ls hP hD hS (lv_sub hl [0, 1, 2] rfl) _ hF hp
    · have hF := it_n hc3 hF
      refine lv_iload_n hx hb dX11_days_18 rfl (lv_at hl 2 rfl) ?_
      refine lv_bipush (v := 10) hx hb dX11_days_19 (by decide) ?_
      refine lv_icmp_lt (tgt := 30) hx hb dX11_days_21 (by decide) (fun hc10 => ?_) (fun hc10 => ?_)
      · have hF := it_p hc10 hF
        refine lv_bipush (v := (-102)) hx hb dX11_days_30 (by decide) ?_
        have hF := (Option.some.inj hF).trans hp
        subst hF
        exact W.iret hx hb hr (fun t ht hW => ⟨rfl, by rw [ht]; exact hP, hS.F ht⟩) hS.2.2 dX11_days_32
      · have hF := it_n hc10 hF
        refine lv_iload_n hx hb dX11_days_24 rfl (lv_at hl 2 rfl) ?_
        refine lv_bipush (v := 13) hx hb dX11_days_25 (by decide) ?_
        refine lv_icmp_lt (tgt := 33) hx hb dX11_days_27 (by decide) (fun hc11 => ?_) (fun hc11 => ?_)
        · have hF := it_p hc11 hF
          exact hN_33 f0 g0 a0 _ _ p1 p2 ls hP hD hS (lv_sub hl [0, 1, 2] rfl) _ hF hp
        · have hF := it_n hc11 hF
          refine lv_bipush (v := (-102)) hx hb dX11_days_30 (by decide) ?_
          have hF := (Option.some.inj hF).trans hp
          subst hF
          exact W.iret hx hb hr (fun t ht hW => ⟨rfl, by rw [ht]; exact hP, hS.F ht⟩) hS.2.2 dX11_days_32
  · have hF := it_p hc2 hF
    refine lv_bipush (v := (-102)) hx hb dX11_days_11 (by decide) ?_
    have hF := (Option.some.inj hF).trans hp
    subst hF
    exact W.iret hx hb hr (fun t ht hW => ⟨rfl, by rw [ht]; exact hP, hS.F ht⟩) hS.2.2 dX11_days_13

def F_X11_hear (f0 : Nat → Int32) (g0 : Nat → Int64) (a0 : Nat → Nat → Int32) (p1 : Int32) (p2 : Int32) (p3 : Int32) : Option (Int32 × ST) := if (F_X9_has f0 g0 a0 p1) = 0 then some ((-101), f0, g0, a0) else if (F_X9_isCompanyOf f0 g0 a0 p1 p2) = 0 then some ((-102), f0, g0, a0) else if (f0 7) < 6 then (F_X3_addHeard f0 g0 a0 p1 p2 p3).bind fun r6 => some ((r6.1 7), r6.1, r6.2.1, r6.2.2) else some ((-104), f0, g0, a0)
set_option maxHeartbeats 4000000 in
set_option maxRecDepth 100000 in
theorem c_X11_hear (l : Launch) (hz : Nat) (D : va_G) (ad : Nat → Nat) (ck : Nat → ClassId) (f0 : Nat → Int32) (g0 : Nat → Int64) (a0 : Nat → Nat → Int32) (p1 : Int32) (p2 : Int32) (p3 : Int32) (out : (Int32 × ST)) (hF : F_X11_hear f0 g0 a0 p1 p2 p3 = some out) : Met l yX11_hear wsX11_hear ({ frames := 2, cells := 0, slots := 0, locals := 45 }) (kW hz D vwCl (tX ck) (wX ad ck f0 g0 a0) [.ref (ad 0), .int p1, .int p2, .int p3]) (kQ D vwCl (some (.int out.1)) (wX ad ck f0 g0 a0) (wX ad ck out.2.1 out.2.2.1 out.2.2.2)) 0 0 (kAd (wX ad ck f0 g0 a0)) := by
  refine Met.ofW (cc := cX11_hear) (maxL := 5) (ret := (some .int)) (by decide) rfl ?_
  intro p e s m args below meth c s₁ B hml hv
  obtain ⟨rfl, hP, hE, hD0⟩ := hv
  have hx := B.exec
  have hb := B.bytes
  have hr := B.returns
  have hts := atoms_spec (ws := wsX11_hear) B.pre
  have hown : s.vm.findClass RX11 = some m.cls := findClass_of_methodNamed B.named
  have hlocks := B.notSynchronized
  have hK := hE.1
  have hnA := kAd_up hD0
  have hD := kD_self hD0
  have hS : va_S (kAd (wX ad ck f0 g0 a0)) s.heap s.heap [] := va_S.rf
  have hiX11 : ∀ w ∈ u_ws RX11 TX11 10, w ∈ wsX11_hear := by decide +kernel
  have hiX3 : ∀ w ∈ u_ws RX3 TX3 10, w ∈ wsX11_hear := by decide +kernel
  have hiX9 : ∀ w ∈ u_ws RX9 TX9 4, w ∈ wsX11_hear := by decide +kernel
  have hf19 := hts (.fieldLink RX11 19 "SpeltByFriends" "here" "LSpeltByFriends$Town;") (by decide +kernel)
  have hf92 := hts (.fieldLink RX11 92 "SpeltByFriends$Town" "ledger" "LSpeltByFriends$Ledger;") (by decide +kernel)
  have hf162 := hts (.fieldLink RX11 162 "SpeltByFriends$Ledger" "heard" "I") (by decide +kernel)
  have hl := lv_entry ([.ref (ad 0), .int p1, .int p2, .int p3]) (n := 5) (Nat.le_of_ble_eq_true rfl)
  rw [lg_entry_eq]
  generalize (lg_sl ([.ref (ad 0), .int p1, .int p2, .int p3]) ++ List.replicate (5 - (lg_sl ([.ref (ad 0), .int p1, .int p2, .int p3])).length) Slot.unset).toArray = ls at hl ⊢
  have hl : lv_has ls 5 [(0, .ref (ad 0)), (1, .int p1), (2, .int p2), (3, .int p3)] := hl
  obtain ⟨r, hF, hp⟩ : ∃ r, F_X11_hear f0 g0 a0 p1 p2 p3 = some r ∧ r = out := ⟨out, hF, rfl⟩
  unfold F_X11_hear at hF
  refine lv_aload_n hx hb dX11_hear_0 rfl (lv_at hl 0 rfl) ?_
  refine va_get (D := D) (ci := 11) (v := .ref (ad 2)) (C := RX11) (T := TX11) (N := 10) hx hb hts hiX11 hown hK hP 0 rfl rfl 1 (by decide) hf19 (fun _ h9 => h9) rfl dX11_hear_1 ?_
  refine lv_iload_n hx hb dX11_hear_4 rfl (lv_at hl 1 rfl) ?_
  refine kS_b (va_runV (As := [.int p1]) (rest := []) ⟨hx, hb, hml, hown, hts⟩ (c_X9_has l hz D ad ck f0 g0 a0 p1) (cwV 1 hts gX11_hear_X9_has rfl rfl rfl ⟨rfl, pX9_has⟩ ⟨Nat.le_of_ble_eq_true rfl, Nat.le_of_ble_eq_true rfl⟩) (kR.preV (va_recv hK hP (ci := 9) (q0 := 2) rfl rfl) hP (hE.kept hS hnA)) rfl rfl hl.1 rfl (lv_room (Nat.le_of_ble_eq_true rfl)) dX11_hear_5 ⟨Nat.le_refl _, Nat.le_refl _⟩) (fun hz1 => ?_)
  refine lv_if_ne (tgt := 14) hx hb dX11_hear_8 (by decide) (fun hc2 => ?_) (fun hc2 => ?_)
  · have hF := it_n hc2 hF
    refine lv_aload_n hx hb dX11_hear_14 rfl (lv_at hl 0 rfl) ?_
    refine va_get (D := D) (ci := 11) (v := .ref (ad 2)) (C := RX11) (T := TX11) (N := 10) hx hb hts hiX11 hown hK hP 0 rfl rfl 1 (by decide) hf19 (fun _ h9 => h9) rfl dX11_hear_15 ?_
    refine lv_iload_n hx hb dX11_hear_18 rfl (lv_at hl 1 rfl) ?_
    refine lv_iload_n hx hb dX11_hear_19 rfl (lv_at hl 2 rfl) ?_
    refine kS_b (va_runV (As := [.int p1, .int p2]) (rest := []) ⟨hx, hb, hml, hown, hts⟩ (c_X9_isCompanyOf l hz D ad ck f0 g0 a0 p1 p2) (cwV 2 hts gX11_hear_X9_isCompanyOf rfl rfl rfl ⟨rfl, pX9_isCompanyOf⟩ ⟨Nat.le_of_ble_eq_true rfl, Nat.le_of_ble_eq_true rfl⟩) (kR.preV (va_recv hK hP (ci := 9) (q0 := 2) rfl rfl) hP (hE.kept hS hnA)) rfl rfl hl.1 rfl (lv_room (Nat.le_of_ble_eq_true rfl)) dX11_hear_20 ⟨Nat.le_refl _, Nat.le_refl _⟩) (fun hz3 => ?_)
    refine lv_if_ne (tgt := 29) hx hb dX11_hear_23 (by decide) (fun hc4 => ?_) (fun hc4 => ?_)
    · have hF := it_n hc4 hF
      refine lv_aload_n hx hb dX11_hear_29 rfl (lv_at hl 0 rfl) ?_
      refine va_get (D := D) (ci := 11) (v := .ref (ad 2)) (C := RX11) (T := TX11) (N := 10) hx hb hts hiX11 hown hK hP 0 rfl rfl 1 (by decide) hf19 (fun _ h9 => h9) rfl dX11_hear_30 ?_
      refine va_get (D := D) (ci := 9) (v := .ref (ad 3)) (C := RX9) (T := TX9) (N := 4) hx hb hts hiX9 hown hK hP 2 rfl rfl 0 (by decide) hf92 (fun _ h9 => h9) rfl dX11_hear_33 ?_
      refine lv_astore (lv' := [(4, .ref (ad 3)), (0, .ref (ad 0)), (1, .int p1), (2, .int p2), (3, .int p3)]) hx hb dX11_hear_36 hl (by decide) rfl (fun ls hl => ?_)
      refine lv_aload hx hb dX11_hear_38 (lv_at hl 0 rfl) ?_
      refine va_get (D := D) (ci := 3) (v := .int (f0 7)) (C := RX3) (T := TX3) (N := 10) hx hb hts hiX3 hown hK hP 3 rfl rfl 7 (by decide) hf162 (fun _ h9 => h9) rfl dX11_hear_40 ?_
      refine lv_bipush (v := 6) hx hb dX11_hear_43 (by decide) ?_
      refine lv_icmp_lt (tgt := 51) hx hb dX11_hear_45 (by decide) (fun hc5 => ?_) (fun hc5 => ?_)
      · have hF := it_p hc5 hF
        refine lv_aload hx hb dX11_hear_51 (lv_at hl 0 rfl) ?_
        refine lv_iload_n hx hb dX11_hear_53 rfl (lv_at hl 2 rfl) ?_
        refine lv_iload_n hx hb dX11_hear_54 rfl (lv_at hl 3 rfl) ?_
        refine lv_iload_n hx hb dX11_hear_55 rfl (lv_at hl 4 rfl) ?_
        obtain ⟨r6, he6, hF⟩ := bd_s hF
        refine kS_w (va_runV (As := [.int p1, .int p2, .int p3]) (rest := []) ⟨hx, hb, hml, hown, hts⟩ (c_X3_addHeard l hz D ad ck f0 g0 a0 p1 p2 p3 r6 he6) (cwV 3 hts gX11_hear_X3_addHeard rfl rfl rfl ⟨rfl, pX3_addHeard⟩ ⟨Nat.le_of_ble_eq_true rfl, Nat.le_of_ble_eq_true rfl⟩) (kW.preV (va_recv hK hP (ci := 3) (q0 := 3) rfl rfl) hP (hE.kept hS hnA) hD hnA) rfl rfl hl.1 rfl (lv_room (Nat.le_of_ble_eq_true rfl)) dX11_hear_56 ⟨Nat.le_refl _, Nat.le_refl _⟩) hD hS rfl (fun H locs hP hD hS => ?_)
        refine lv_aload hx hb dX11_hear_59 (lv_at hl 0 rfl) ?_
        refine va_get (D := D) (ci := 3) (v := .int (r6.1 7)) (C := RX3) (T := TX3) (N := 10) hx hb hts hiX3 hown hK hP 3 rfl rfl 7 (by decide) hf162 (fun _ h9 => h9) rfl dX11_hear_61 ?_
        have hF := (Option.some.inj hF).trans hp
        subst hF
        exact W.iret hx hb hr (fun t ht hW => ⟨rfl, by rw [ht]; exact hP, hS.F ht⟩) hS.2.2 dX11_hear_64
      · have hF := it_n hc5 hF
        refine lv_bipush (v := (-104)) hx hb dX11_hear_48 (by decide) ?_
        have hF := (Option.some.inj hF).trans hp
        subst hF
        exact W.iret hx hb hr (fun t ht hW => ⟨rfl, by rw [ht]; exact hP, hS.F ht⟩) hS.2.2 dX11_hear_50
    · have hF := it_p hc4 hF
      refine lv_bipush (v := (-102)) hx hb dX11_hear_26 (by decide) ?_
      have hF := (Option.some.inj hF).trans hp
      subst hF
      exact W.iret hx hb hr (fun t ht hW => ⟨rfl, by rw [ht]; exact hP, hS.F ht⟩) hS.2.2 dX11_hear_28
  · have hF := it_p hc2 hF
    refine lv_bipush (v := (-101)) hx hb dX11_hear_11 (by decide) ?_
    have hF := (Option.some.inj hF).trans hp
    subst hF
    exact W.iret hx hb hr (fun t ht hW => ⟨rfl, by rw [ht]; exact hP, hS.F ht⟩) hS.2.2 dX11_hear_13

def F_X11_forget (f0 : Nat → Int32) (g0 : Nat → Int64) (a0 : Nat → Nat → Int32) : Option (Int32 × ST) := some ((f0 7), (upd f0 7 0), g0, a0)
set_option maxHeartbeats 4000000 in
set_option maxRecDepth 100000 in
theorem c_X11_forget (l : Launch) (hz : Nat) (D : va_G) (ad : Nat → Nat) (ck : Nat → ClassId) (f0 : Nat → Int32) (g0 : Nat → Int64) (a0 : Nat → Nat → Int32) (out : (Int32 × ST)) (hF : F_X11_forget f0 g0 a0 = some out) : Met l yX11_forget wsX11_forget ({ frames := 0, cells := 0, slots := 0, locals := 0 }) (kW hz D vwCl (tX ck) (wX ad ck f0 g0 a0) [.ref (ad 0)]) (kQ D vwCl (some (.int out.1)) (wX ad ck f0 g0 a0) (wX ad ck out.2.1 out.2.2.1 out.2.2.2)) 0 0 (kAd (wX ad ck f0 g0 a0)) := by
  refine Met.ofW (cc := cX11_forget) (maxL := 2) (ret := (some .int)) (by decide) rfl ?_
  intro p e s m args below meth c s₁ B hml hv
  obtain ⟨rfl, hP, hE, hD0⟩ := hv
  have hx := B.exec
  have hb := B.bytes
  have hr := B.returns
  have hts := atoms_spec (ws := wsX11_forget) B.pre
  have hown : s.vm.findClass RX11 = some m.cls := findClass_of_methodNamed B.named
  have hlocks := B.notSynchronized
  have hK := hE.1
  have hnA := kAd_up hD0
  have hD := kD_self hD0
  have hS : va_S (kAd (wX ad ck f0 g0 a0)) s.heap s.heap [] := va_S.rf
  have hiX11 : ∀ w ∈ u_ws RX11 TX11 10, w ∈ wsX11_forget := by decide +kernel
  have hiX3 : ∀ w ∈ u_ws RX3 TX3 10, w ∈ wsX11_forget := by decide +kernel
  have hiX9 : ∀ w ∈ u_ws RX9 TX9 4, w ∈ wsX11_forget := by decide +kernel
  have hf19 := hts (.fieldLink RX11 19 "SpeltByFriends" "here" "LSpeltByFriends$Town;") (by decide +kernel)
  have hf92 := hts (.fieldLink RX11 92 "SpeltByFriends$Town" "ledger" "LSpeltByFriends$Ledger;") (by decide +kernel)
  have hf162 := hts (.fieldLink RX11 162 "SpeltByFriends$Ledger" "heard" "I") (by decide +kernel)
  have hl := lv_entry ([.ref (ad 0)]) (n := 2) (Nat.le_of_ble_eq_true rfl)
  rw [lg_entry_eq]
  generalize (lg_sl ([.ref (ad 0)]) ++ List.replicate (2 - (lg_sl ([.ref (ad 0)])).length) Slot.unset).toArray = ls at hl ⊢
  have hl : lv_has ls 2 [(0, .ref (ad 0))] := hl
  obtain ⟨r, hF, hp⟩ : ∃ r, F_X11_forget f0 g0 a0 = some r ∧ r = out := ⟨out, hF, rfl⟩
  unfold F_X11_forget at hF
  refine lv_aload_n hx hb dX11_forget_0 rfl (lv_at hl 0 rfl) ?_
  refine va_get (D := D) (ci := 11) (v := .ref (ad 2)) (C := RX11) (T := TX11) (N := 10) hx hb hts hiX11 hown hK hP 0 rfl rfl 1 (by decide) hf19 (fun _ h9 => h9) rfl dX11_forget_1 ?_
  refine va_get (D := D) (ci := 9) (v := .ref (ad 3)) (C := RX9) (T := TX9) (N := 4) hx hb hts hiX9 hown hK hP 2 rfl rfl 0 (by decide) hf92 (fun _ h9 => h9) rfl dX11_forget_4 ?_
  refine va_get (D := D) (ci := 3) (v := .int (f0 7)) (C := RX3) (T := TX3) (N := 10) hx hb hts hiX3 hown hK hP 3 rfl rfl 7 (by decide) hf162 (fun _ h9 => h9) rfl dX11_forget_7 ?_
  refine lv_istore_n (lv' := [(1, .int (f0 7)), (0, .ref (ad 0))]) hx hb dX11_forget_10 rfl hl (by decide) rfl (fun ls hl => ?_)
  refine lv_aload_n hx hb dX11_forget_11 rfl (lv_at hl 1 rfl) ?_
  refine va_get (D := D) (ci := 11) (v := .ref (ad 2)) (C := RX11) (T := TX11) (N := 10) hx hb hts hiX11 hown hK hP 0 rfl rfl 1 (by decide) hf19 (fun _ h9 => h9) rfl dX11_forget_12 ?_
  refine va_get (D := D) (ci := 9) (v := .ref (ad 3)) (C := RX9) (T := TX9) (N := 4) hx hb hts hiX9 hown hK hP 2 rfl rfl 0 (by decide) hf92 (fun _ h9 => h9) rfl dX11_forget_15 ?_
  refine lv_iconst (v := 0) hx hb dX11_forget_18 (by decide) ?_
  refine va_put (D := D) (ci := 3) (v := .int 0) (ty := .int) (C := RX3) (T := TX3) (N := 10) hx hb hts hiX3 tyX3 tyX3_ok nmX3 hown hK hP hD hS 3 rfl rfl 7 (by decide) hf162 (fun _ h9 => h9) rfl (tyX3_ok 7 (by decide)) rfl rfl (Nat.le_of_ble_eq_true rfl) dX11_forget_19 (fun H locs hP hD hS => ?_)
  have hP := kPe (ef_wX3_7 ad ck f0 g0 a0 0) hP
  have hD := kDe (ef_wX3_7 ad ck f0 g0 a0 0) hD
  refine lv_iload_n hx hb dX11_forget_22 rfl (lv_at hl 0 rfl) ?_
  have hF := (Option.some.inj hF).trans hp
  subst hF
  exact W.iret hx hb hr (fun t ht hW => ⟨rfl, by rw [ht]; exact hP, hS.F ht⟩) hS.2.2 dX11_forget_23

def F_X11_holders (f0 : Nat → Int32) (g0 : Nat → Int64) (a0 : Nat → Nat → Int32) (p1 : Int32) (p2 : Int32) : Option (Int32 × ST) := if (F_X9_has f0 g0 a0 p1) = 0 then some ((-101), f0, g0, a0) else if p2 < 0 then some ((-102), f0, g0, a0) else if p2 ≤ 1 then (F_X1_gather f0 g0 a0 p1).bind fun r5 => if p2 = 0 then some ((r5.1 17), r5.1, r5.2.1, r5.2.2) else some ((F_X1_least r5.1 r5.2.1 r5.2.2), r5.1, r5.2.1, r5.2.2) else some ((-102), f0, g0, a0)
set_option maxHeartbeats 4000000 in
set_option maxRecDepth 100000 in
theorem c_X11_holders (l : Launch) (hz : Nat) (D : va_G) (ad : Nat → Nat) (ck : Nat → ClassId) (f0 : Nat → Int32) (g0 : Nat → Int64) (a0 : Nat → Nat → Int32) (p1 : Int32) (p2 : Int32) (out : (Int32 × ST)) (hF : F_X11_holders f0 g0 a0 p1 p2 = some out) : Met l yX11_holders wsX11_holders ({ frames := 5, cells := 0, slots := 0, locals := 122 }) (kW hz D vwCl (tX ck) (wX ad ck f0 g0 a0) [.ref (ad 0), .int p1, .int p2]) (kQ D vwCl (some (.int out.1)) (wX ad ck f0 g0 a0) (wX ad ck out.2.1 out.2.2.1 out.2.2.2)) 0 0 (kAd (wX ad ck f0 g0 a0)) := by
  refine Met.ofW (cc := cX11_holders) (maxL := 3) (ret := (some .int)) (by decide) rfl ?_
  intro p e s m args below meth c s₁ B hml hv
  obtain ⟨rfl, hP, hE, hD0⟩ := hv
  have hx := B.exec
  have hb := B.bytes
  have hr := B.returns
  have hts := atoms_spec (ws := wsX11_holders) B.pre
  have hown : s.vm.findClass RX11 = some m.cls := findClass_of_methodNamed B.named
  have hlocks := B.notSynchronized
  have hK := hE.1
  have hnA := kAd_up hD0
  have hD := kD_self hD0
  have hS : va_S (kAd (wX ad ck f0 g0 a0)) s.heap s.heap [] := va_S.rf
  have hiX1 : ∀ w ∈ u_ws RX1 TX1 4, w ∈ wsX11_holders := by decide +kernel
  have hiX11 : ∀ w ∈ u_ws RX11 TX11 10, w ∈ wsX11_holders := by decide +kernel
  have hf19 := hts (.fieldLink RX11 19 "SpeltByFriends" "here" "LSpeltByFriends$Town;") (by decide +kernel)
  have hf40 := hts (.fieldLink RX11 40 "SpeltByFriends" "guesses" "LSpeltByFriends$Guesses;") (by decide +kernel)
  have hf172 := hts (.fieldLink RX11 172 "SpeltByFriends$Guesses" "many" "I") (by decide +kernel)
  have hl := lv_entry ([.ref (ad 0), .int p1, .int p2]) (n := 3) (Nat.le_of_ble_eq_true rfl)
  rw [lg_entry_eq]
  generalize (lg_sl ([.ref (ad 0), .int p1, .int p2]) ++ List.replicate (3 - (lg_sl ([.ref (ad 0), .int p1, .int p2])).length) Slot.unset).toArray = ls at hl ⊢
  have hl : lv_has ls 3 [(0, .ref (ad 0)), (1, .int p1), (2, .int p2)] := hl
  obtain ⟨r, hF, hp⟩ : ∃ r, F_X11_holders f0 g0 a0 p1 p2 = some r ∧ r = out := ⟨out, hF, rfl⟩
  unfold F_X11_holders at hF
  refine lv_aload_n hx hb dX11_holders_0 rfl (lv_at hl 0 rfl) ?_
  refine va_get (D := D) (ci := 11) (v := .ref (ad 2)) (C := RX11) (T := TX11) (N := 10) hx hb hts hiX11 hown hK hP 0 rfl rfl 1 (by decide) hf19 (fun _ h9 => h9) rfl dX11_holders_1 ?_
  refine lv_iload_n hx hb dX11_holders_4 rfl (lv_at hl 1 rfl) ?_
  refine kS_b (va_runV (As := [.int p1]) (rest := []) ⟨hx, hb, hml, hown, hts⟩ (c_X9_has l hz D ad ck f0 g0 a0 p1) (cwV 1 hts gX11_holders_X9_has rfl rfl rfl ⟨rfl, pX9_has⟩ ⟨Nat.le_of_ble_eq_true rfl, Nat.le_of_ble_eq_true rfl⟩) (kR.preV (va_recv hK hP (ci := 9) (q0 := 2) rfl rfl) hP (hE.kept hS hnA)) rfl rfl hl.1 rfl (lv_room (Nat.le_of_ble_eq_true rfl)) dX11_holders_5 ⟨Nat.le_refl _, Nat.le_refl _⟩) (fun hz1 => ?_)
  refine lv_if_ne (tgt := 14) hx hb dX11_holders_8 (by decide) (fun hc2 => ?_) (fun hc2 => ?_)
  · have hF := it_n hc2 hF
    refine lv_iload_n hx hb dX11_holders_14 rfl (lv_at hl 2 rfl) ?_
    refine lv_if_lt (tgt := 23) hx hb dX11_holders_15 (by decide) (fun hc3 => ?_) (fun hc3 => ?_)
    · have hF := it_p hc3 hF
      refine lv_bipush (v := (-102)) hx hb dX11_holders_23 (by decide) ?_
      have hF := (Option.some.inj hF).trans hp
      subst hF
      exact W.iret hx hb hr (fun t ht hW => ⟨rfl, by rw [ht]; exact hP, hS.F ht⟩) hS.2.2 dX11_holders_25
    · have hF := it_n hc3 hF
      refine lv_iload_n hx hb dX11_holders_18 rfl (lv_at hl 2 rfl) ?_
      refine lv_iconst (v := 1) hx hb dX11_holders_19 (by decide) ?_
      refine lv_icmp_le (tgt := 26) hx hb dX11_holders_20 (by decide) (fun hc4 => ?_) (fun hc4 => ?_)
      · have hF := it_p hc4 hF
        refine lv_aload_n hx hb dX11_holders_26 rfl (lv_at hl 0 rfl) ?_
        refine va_get (D := D) (ci := 11) (v := .ref (ad 6)) (C := RX11) (T := TX11) (N := 10) hx hb hts hiX11 hown hK hP 0 rfl rfl 4 (by decide) hf40 (fun _ h9 => h9) rfl dX11_holders_27 ?_
        refine lv_aload_n hx hb dX11_holders_30 rfl (lv_at hl 0 rfl) ?_
        refine va_get (D := D) (ci := 11) (v := .ref (ad 2)) (C := RX11) (T := TX11) (N := 10) hx hb hts hiX11 hown hK hP 0 rfl rfl 1 (by decide) hf19 (fun _ h9 => h9) rfl dX11_holders_31 ?_
        refine lv_iload_n hx hb dX11_holders_34 rfl (lv_at hl 1 rfl) ?_
        obtain ⟨r5, he5, hF⟩ := bd_s hF
        refine kS_w (va_runV (As := [.ref (ad 2), .int p1]) (rest := []) ⟨hx, hb, hml, hown, hts⟩ (c_X1_gather l hz D ad ck f0 g0 a0 p1 r5 he5) (cwV 2 hts gX11_holders_X1_gather rfl rfl rfl ⟨rfl, pX1_gather⟩ ⟨Nat.le_of_ble_eq_true rfl, Nat.le_of_ble_eq_true rfl⟩) (kW.preV (va_recv hK hP (ci := 1) (q0 := 6) rfl rfl) hP (hE.kept hS hnA) hD hnA) rfl rfl hl.1 rfl (lv_room (Nat.le_of_ble_eq_true rfl)) dX11_holders_35 ⟨Nat.le_refl _, Nat.le_refl _⟩) hD hS rfl (fun H locs hP hD hS => ?_)
        refine lv_iload_n hx hb dX11_holders_38 rfl (lv_at hl 2 rfl) ?_
        refine lv_if_ne (tgt := 52) hx hb dX11_holders_39 (by decide) (fun hc6 => ?_) (fun hc6 => ?_)
        · have hF := it_n hc6 hF
          refine lv_aload_n hx hb dX11_holders_52 rfl (lv_at hl 0 rfl) ?_
          refine va_get (D := D) (ci := 11) (v := .ref (ad 6)) (C := RX11) (T := TX11) (N := 10) hx hb hts hiX11 hown hK hP 0 rfl rfl 4 (by decide) hf40 (fun _ h9 => h9) rfl dX11_holders_53 ?_
          refine kS_i (va_runV (As := []) (rest := []) ⟨hx, hb, hml, hown, hts⟩ (c_X1_least l hz D ad ck r5.1 r5.2.1 r5.2.2) (cwV 0 hts gX11_holders_X1_least rfl rfl rfl ⟨rfl, pX1_least⟩ ⟨Nat.le_of_ble_eq_true rfl, Nat.le_of_ble_eq_true rfl⟩) (kR.preV (va_recv hK hP (ci := 1) (q0 := 6) rfl rfl) hP (hE.kept hS hnA)) rfl rfl hl.1 rfl (lv_room (Nat.le_of_ble_eq_true rfl)) dX11_holders_56 ⟨Nat.le_refl _, Nat.le_refl _⟩) ?_
          have hF := (Option.some.inj hF).trans hp
          subst hF
          exact W.iret hx hb hr (fun t ht hW => ⟨rfl, by rw [ht]; exact hP, hS.F ht⟩) hS.2.2 dX11_holders_59
        · have hF := it_p hc6 hF
          refine lv_aload_n hx hb dX11_holders_42 rfl (lv_at hl 0 rfl) ?_
          refine va_get (D := D) (ci := 11) (v := .ref (ad 6)) (C := RX11) (T := TX11) (N := 10) hx hb hts hiX11 hown hK hP 0 rfl rfl 4 (by decide) hf40 (fun _ h9 => h9) rfl dX11_holders_43 ?_
          refine va_get (D := D) (ci := 1) (v := .int (r5.1 17)) (C := RX1) (T := TX1) (N := 4) hx hb hts hiX1 hown hK hP 6 rfl rfl 3 (by decide) hf172 (fun _ h9 => h9) rfl dX11_holders_46 ?_
          refine lv_goto (tgt := 59) hx hb dX11_holders_49 (by decide) ?_
          have hF := (Option.some.inj hF).trans hp
          subst hF
          exact W.iret hx hb hr (fun t ht hW => ⟨rfl, by rw [ht]; exact hP, hS.F ht⟩) hS.2.2 dX11_holders_59
      · have hF := it_n hc4 hF
        refine lv_bipush (v := (-102)) hx hb dX11_holders_23 (by decide) ?_
        have hF := (Option.some.inj hF).trans hp
        subst hF
        exact W.iret hx hb hr (fun t ht hW => ⟨rfl, by rw [ht]; exact hP, hS.F ht⟩) hS.2.2 dX11_holders_25
  · have hF := it_p hc2 hF
    refine lv_bipush (v := (-101)) hx hb dX11_holders_11 (by decide) ?_
    have hF := (Option.some.inj hF).trans hp
    subst hF
    exact W.iret hx hb hr (fun t ht hW => ⟨rfl, by rw [ht]; exact hP, hS.F ht⟩) hS.2.2 dX11_holders_13

def F_X11_invite (f0 : Nat → Int32) (g0 : Nat → Int64) (a0 : Nat → Nat → Int32) (p1 : Int32) : Option (Int32 × ST) := if (F_X9_has f0 g0 a0 p1) = 0 then some ((-101), f0, g0, a0) else (F_X1_gather f0 g0 a0 p1).bind fun r3 => (F_X1_bestCompany r3.1 r3.2.1 r3.2.2).bind fun r4 => some (r4, r3.1, r3.2.1, r3.2.2)
set_option maxHeartbeats 4000000 in
set_option maxRecDepth 100000 in
theorem c_X11_invite (l : Launch) (hz : Nat) (D : va_G) (ad : Nat → Nat) (ck : Nat → ClassId) (f0 : Nat → Int32) (g0 : Nat → Int64) (a0 : Nat → Nat → Int32) (p1 : Int32) (out : (Int32 × ST)) (hF : F_X11_invite f0 g0 a0 p1 = some out) : Met l yX11_invite wsX11_invite ({ frames := 5, cells := 0, slots := 0, locals := 122 }) (kW hz D vwCl (tX ck) (wX ad ck f0 g0 a0) [.ref (ad 0), .int p1]) (kQ D vwCl (some (.int out.1)) (wX ad ck f0 g0 a0) (wX ad ck out.2.1 out.2.2.1 out.2.2.2)) 0 0 (kAd (wX ad ck f0 g0 a0)) := by
  refine Met.ofW (cc := cX11_invite) (maxL := 2) (ret := (some .int)) (by decide) rfl ?_
  intro p e s m args below meth c s₁ B hml hv
  obtain ⟨rfl, hP, hE, hD0⟩ := hv
  have hx := B.exec
  have hb := B.bytes
  have hr := B.returns
  have hts := atoms_spec (ws := wsX11_invite) B.pre
  have hown : s.vm.findClass RX11 = some m.cls := findClass_of_methodNamed B.named
  have hlocks := B.notSynchronized
  have hK := hE.1
  have hnA := kAd_up hD0
  have hD := kD_self hD0
  have hS : va_S (kAd (wX ad ck f0 g0 a0)) s.heap s.heap [] := va_S.rf
  have hiX11 : ∀ w ∈ u_ws RX11 TX11 10, w ∈ wsX11_invite := by decide +kernel
  have hf19 := hts (.fieldLink RX11 19 "SpeltByFriends" "here" "LSpeltByFriends$Town;") (by decide +kernel)
  have hf40 := hts (.fieldLink RX11 40 "SpeltByFriends" "guesses" "LSpeltByFriends$Guesses;") (by decide +kernel)
  have hl := lv_entry ([.ref (ad 0), .int p1]) (n := 2) (Nat.le_of_ble_eq_true rfl)
  rw [lg_entry_eq]
  generalize (lg_sl ([.ref (ad 0), .int p1]) ++ List.replicate (2 - (lg_sl ([.ref (ad 0), .int p1])).length) Slot.unset).toArray = ls at hl ⊢
  have hl : lv_has ls 2 [(0, .ref (ad 0)), (1, .int p1)] := hl
  obtain ⟨r, hF, hp⟩ : ∃ r, F_X11_invite f0 g0 a0 p1 = some r ∧ r = out := ⟨out, hF, rfl⟩
  unfold F_X11_invite at hF
  refine lv_aload_n hx hb dX11_invite_0 rfl (lv_at hl 0 rfl) ?_
  refine va_get (D := D) (ci := 11) (v := .ref (ad 2)) (C := RX11) (T := TX11) (N := 10) hx hb hts hiX11 hown hK hP 0 rfl rfl 1 (by decide) hf19 (fun _ h9 => h9) rfl dX11_invite_1 ?_
  refine lv_iload_n hx hb dX11_invite_4 rfl (lv_at hl 1 rfl) ?_
  refine kS_b (va_runV (As := [.int p1]) (rest := []) ⟨hx, hb, hml, hown, hts⟩ (c_X9_has l hz D ad ck f0 g0 a0 p1) (cwV 1 hts gX11_invite_X9_has rfl rfl rfl ⟨rfl, pX9_has⟩ ⟨Nat.le_of_ble_eq_true rfl, Nat.le_of_ble_eq_true rfl⟩) (kR.preV (va_recv hK hP (ci := 9) (q0 := 2) rfl rfl) hP (hE.kept hS hnA)) rfl rfl hl.1 rfl (lv_room (Nat.le_of_ble_eq_true rfl)) dX11_invite_5 ⟨Nat.le_refl _, Nat.le_refl _⟩) (fun hz1 => ?_)
  refine lv_if_ne (tgt := 14) hx hb dX11_invite_8 (by decide) (fun hc2 => ?_) (fun hc2 => ?_)
  · have hF := it_n hc2 hF
    refine lv_aload_n hx hb dX11_invite_14 rfl (lv_at hl 0 rfl) ?_
    refine va_get (D := D) (ci := 11) (v := .ref (ad 6)) (C := RX11) (T := TX11) (N := 10) hx hb hts hiX11 hown hK hP 0 rfl rfl 4 (by decide) hf40 (fun _ h9 => h9) rfl dX11_invite_15 ?_
    refine lv_aload_n hx hb dX11_invite_18 rfl (lv_at hl 0 rfl) ?_
    refine va_get (D := D) (ci := 11) (v := .ref (ad 2)) (C := RX11) (T := TX11) (N := 10) hx hb hts hiX11 hown hK hP 0 rfl rfl 1 (by decide) hf19 (fun _ h9 => h9) rfl dX11_invite_19 ?_
    refine lv_iload_n hx hb dX11_invite_22 rfl (lv_at hl 1 rfl) ?_
    obtain ⟨r3, he3, hF⟩ := bd_s hF
    refine kS_w (va_runV (As := [.ref (ad 2), .int p1]) (rest := []) ⟨hx, hb, hml, hown, hts⟩ (c_X1_gather l hz D ad ck f0 g0 a0 p1 r3 he3) (cwV 2 hts gX11_invite_X1_gather rfl rfl rfl ⟨rfl, pX1_gather⟩ ⟨Nat.le_of_ble_eq_true rfl, Nat.le_of_ble_eq_true rfl⟩) (kW.preV (va_recv hK hP (ci := 1) (q0 := 6) rfl rfl) hP (hE.kept hS hnA) hD hnA) rfl rfl hl.1 rfl (lv_room (Nat.le_of_ble_eq_true rfl)) dX11_invite_23 ⟨Nat.le_refl _, Nat.le_refl _⟩) hD hS rfl (fun H locs hP hD hS => ?_)
    refine lv_aload_n hx hb dX11_invite_26 rfl (lv_at hl 0 rfl) ?_
    refine va_get (D := D) (ci := 11) (v := .ref (ad 6)) (C := RX11) (T := TX11) (N := 10) hx hb hts hiX11 hown hK hP 0 rfl rfl 4 (by decide) hf40 (fun _ h9 => h9) rfl dX11_invite_27 ?_
    refine lv_aload_n hx hb dX11_invite_30 rfl (lv_at hl 0 rfl) ?_
    refine va_get (D := D) (ci := 11) (v := .ref (ad 2)) (C := RX11) (T := TX11) (N := 10) hx hb hts hiX11 hown hK hP 0 rfl rfl 1 (by decide) hf19 (fun _ h9 => h9) rfl dX11_invite_31 ?_
    obtain ⟨r4, he4, hF⟩ := bd_s hF
    refine kS_i (va_runV (As := [.ref (ad 2)]) (rest := []) ⟨hx, hb, hml, hown, hts⟩ (c_X1_bestCompany l hz D ad ck r3.1 r3.2.1 r3.2.2 r4 he4) (cwV 1 hts gX11_invite_X1_bestCompany rfl rfl rfl ⟨rfl, pX1_bestCompany⟩ ⟨Nat.le_of_ble_eq_true rfl, Nat.le_of_ble_eq_true rfl⟩) (kR.preV (va_recv hK hP (ci := 1) (q0 := 6) rfl rfl) hP (hE.kept hS hnA)) rfl rfl hl.1 rfl (lv_room (Nat.le_of_ble_eq_true rfl)) dX11_invite_34 ⟨Nat.le_refl _, Nat.le_refl _⟩) ?_
    have hF := (Option.some.inj hF).trans hp
    subst hF
    exact W.iret hx hb hr (fun t ht hW => ⟨rfl, by rw [ht]; exact hP, hS.F ht⟩) hS.2.2 dX11_invite_37
  · have hF := it_p hc2 hF
    refine lv_bipush (v := (-101)) hx hb dX11_invite_11 (by decide) ?_
    have hF := (Option.some.inj hF).trans hp
    subst hF
    exact W.iret hx hb hr (fun t ht hW => ⟨rfl, by rw [ht]; exact hP, hS.F ht⟩) hS.2.2 dX11_invite_13

def F_X11_years (f0 : Nat → Int32) (g0 : Nat → Int64) (a0 : Nat → Nat → Int32) (p1 : Int32) (p2 : Int32) (p3 : Int32) : Option (Int32 × ST) := if p1 < 1 then some ((-102), f0, g0, a0) else if 60 < p1 then some ((-102), f0, g0, a0) else if p2 < 0 then some ((-102), f0, g0, a0) else if p3 < 0 then some ((-102), f0, g0, a0) else if p3 ≤ 2 then if (f0 5) = 0 then some ((-103), f0, g0, a0) else (F_X4_play f0 g0 a0 p1 p2).bind fun r7 => if p3 = 0 then some ((r7.1 19), r7.1, r7.2.1, r7.2.2) else (if p3 = 1 then some ((r7.1 20), r7.1, r7.2.1, r7.2.2) else (some ((r7.1 18), r7.1, r7.2.1, r7.2.2))) else some ((-102), f0, g0, a0)
set_option maxHeartbeats 4000000 in
set_option maxRecDepth 100000 in
theorem c_X11_years (l : Launch) (hz : Nat) (D : va_G) (ad : Nat → Nat) (ck : Nat → ClassId) (f0 : Nat → Int32) (g0 : Nat → Int64) (a0 : Nat → Nat → Int32) (p1 : Int32) (p2 : Int32) (p3 : Int32) (out : (Int32 × ST)) (hF : F_X11_years f0 g0 a0 p1 p2 p3 = some out) : Met l yX11_years wsX11_years ({ frames := 6, cells := 0, slots := 0, locals := 143 }) (kW hz D vwCl (tX ck) (wX ad ck f0 g0 a0) [.ref (ad 0), .int p1, .int p2, .int p3]) (kQ D vwCl (some (.int out.1)) (wX ad ck f0 g0 a0) (wX ad ck out.2.1 out.2.2.1 out.2.2.2)) 0 0 (kAd (wX ad ck f0 g0 a0)) := by
  refine Met.ofW (cc := cX11_years) (maxL := 4) (ret := (some .int)) (by decide) rfl ?_
  intro p e s m args below meth c s₁ B hml hv
  obtain ⟨rfl, hP, hE, hD0⟩ := hv
  have hx := B.exec
  have hb := B.bytes
  have hr := B.returns
  have hts := atoms_spec (ws := wsX11_years) B.pre
  have hown : s.vm.findClass RX11 = some m.cls := findClass_of_methodNamed B.named
  have hlocks := B.notSynchronized
  have hK := hE.1
  have hnA := kAd_up hD0
  have hD := kD_self hD0
  have hS : va_S (kAd (wX ad ck f0 g0 a0)) s.heap s.heap [] := va_S.rf
  have hiX11 : ∀ w ∈ u_ws RX11 TX11 10, w ∈ wsX11_years := by decide +kernel
  have hiX4 : ∀ w ∈ u_ws RX4 TX4 3, w ∈ wsX11_years := by decide +kernel
  have hiX9 : ∀ w ∈ u_ws RX9 TX9 4, w ∈ wsX11_years := by decide +kernel
  have hf19 := hts (.fieldLink RX11 19 "SpeltByFriends" "here" "LSpeltByFriends$Town;") (by decide +kernel)
  have hf47 := hts (.fieldLink RX11 47 "SpeltByFriends" "lottery" "LSpeltByFriends$Lottery;") (by decide +kernel)
  have hf74 := hts (.fieldLink RX11 74 "SpeltByFriends$Town" "size" "I") (by decide +kernel)
  have hf186 := hts (.fieldLink RX11 186 "SpeltByFriends$Lottery" "together" "I") (by decide +kernel)
  have hf189 := hts (.fieldLink RX11 189 "SpeltByFriends$Lottery" "inTheEnd" "I") (by decide +kernel)
  have hf192 := hts (.fieldLink RX11 192 "SpeltByFriends$Lottery" "seed" "I") (by decide +kernel)
  have hl := lv_entry ([.ref (ad 0), .int p1, .int p2, .int p3]) (n := 4) (Nat.le_of_ble_eq_true rfl)
  rw [lg_entry_eq]
  generalize (lg_sl ([.ref (ad 0), .int p1, .int p2, .int p3]) ++ List.replicate (4 - (lg_sl ([.ref (ad 0), .int p1, .int p2, .int p3])).length) Slot.unset).toArray = ls at hl ⊢
  have hl : lv_has ls 4 [(0, .ref (ad 0)), (1, .int p1), (2, .int p2), (3, .int p3)] := hl
  obtain ⟨r, hF, hp⟩ : ∃ r, F_X11_years f0 g0 a0 p1 p2 p3 = some r ∧ r = out := ⟨out, hF, rfl⟩
  unfold F_X11_years at hF
  refine lv_iload_n hx hb dX11_years_0 rfl (lv_at hl 1 rfl) ?_
  refine lv_iconst (v := 1) hx hb dX11_years_1 (by decide) ?_
  refine lv_icmp_lt (tgt := 24) hx hb dX11_years_2 (by decide) (fun hc1 => ?_) (fun hc1 => ?_)
  · have hF := it_p hc1 hF
    refine lv_bipush (v := (-102)) hx hb dX11_years_24 (by decide) ?_
    have hF := (Option.some.inj hF).trans hp
    subst hF
    exact W.iret hx hb hr (fun t ht hW => ⟨rfl, by rw [ht]; exact hP, hS.F ht⟩) hS.2.2 dX11_years_26
  · have hF := it_n hc1 hF
    refine lv_iload_n hx hb dX11_years_5 rfl (lv_at hl 1 rfl) ?_
    refine lv_bipush (v := 60) hx hb dX11_years_6 (by decide) ?_
    refine lv_icmp_gt (tgt := 24) hx hb dX11_years_8 (by decide) (fun hc2 => ?_) (fun hc2 => ?_)
    · have hF := it_p hc2 hF
      refine lv_bipush (v := (-102)) hx hb dX11_years_24 (by decide) ?_
      have hF := (Option.some.inj hF).trans hp
      subst hF
      exact W.iret hx hb hr (fun t ht hW => ⟨rfl, by rw [ht]; exact hP, hS.F ht⟩) hS.2.2 dX11_years_26
    · have hF := it_n hc2 hF
      refine lv_iload_n hx hb dX11_years_11 rfl (lv_at hl 2 rfl) ?_
      refine lv_if_lt (tgt := 24) hx hb dX11_years_12 (by decide) (fun hc3 => ?_) (fun hc3 => ?_)
      · have hF := it_p hc3 hF
        refine lv_bipush (v := (-102)) hx hb dX11_years_24 (by decide) ?_
        have hF := (Option.some.inj hF).trans hp
        subst hF
        exact W.iret hx hb hr (fun t ht hW => ⟨rfl, by rw [ht]; exact hP, hS.F ht⟩) hS.2.2 dX11_years_26
      · have hF := it_n hc3 hF
        refine lv_iload_n hx hb dX11_years_15 rfl (lv_at hl 3 rfl) ?_
        refine lv_if_lt (tgt := 24) hx hb dX11_years_16 (by decide) (fun hc4 => ?_) (fun hc4 => ?_)
        · have hF := it_p hc4 hF
          refine lv_bipush (v := (-102)) hx hb dX11_years_24 (by decide) ?_
          have hF := (Option.some.inj hF).trans hp
          subst hF
          exact W.iret hx hb hr (fun t ht hW => ⟨rfl, by rw [ht]; exact hP, hS.F ht⟩) hS.2.2 dX11_years_26
        · have hF := it_n hc4 hF
          refine lv_iload_n hx hb dX11_years_19 rfl (lv_at hl 3 rfl) ?_
          refine lv_iconst (v := 2) hx hb dX11_years_20 (by decide) ?_
          refine lv_icmp_le (tgt := 27) hx hb dX11_years_21 (by decide) (fun hc5 => ?_) (fun hc5 => ?_)
          · have hF := it_p hc5 hF
            refine lv_aload_n hx hb dX11_years_27 rfl (lv_at hl 0 rfl) ?_
            refine va_get (D := D) (ci := 11) (v := .ref (ad 2)) (C := RX11) (T := TX11) (N := 10) hx hb hts hiX11 hown hK hP 0 rfl rfl 1 (by decide) hf19 (fun _ h9 => h9) rfl dX11_years_28 ?_
            refine va_get (D := D) (ci := 9) (v := .int (f0 5)) (C := RX9) (T := TX9) (N := 4) hx hb hts hiX9 hown hK hP 2 rfl rfl 3 (by decide) hf74 (fun _ h9 => h9) rfl dX11_years_31 ?_
            refine lv_if_ne (tgt := 40) hx hb dX11_years_34 (by decide) (fun hc6 => ?_) (fun hc6 => ?_)
            · have hF := it_n hc6 hF
              refine lv_aload_n hx hb dX11_years_40 rfl (lv_at hl 0 rfl) ?_
              refine va_get (D := D) (ci := 11) (v := .ref (ad 7)) (C := RX11) (T := TX11) (N := 10) hx hb hts hiX11 hown hK hP 0 rfl rfl 5 (by decide) hf47 (fun _ h9 => h9) rfl dX11_years_41 ?_
              refine lv_aload_n hx hb dX11_years_44 rfl (lv_at hl 0 rfl) ?_
              refine va_get (D := D) (ci := 11) (v := .ref (ad 2)) (C := RX11) (T := TX11) (N := 10) hx hb hts hiX11 hown hK hP 0 rfl rfl 1 (by decide) hf19 (fun _ h9 => h9) rfl dX11_years_45 ?_
              refine lv_iload_n hx hb dX11_years_48 rfl (lv_at hl 1 rfl) ?_
              refine lv_iload_n hx hb dX11_years_49 rfl (lv_at hl 2 rfl) ?_
              obtain ⟨r7, he7, hF⟩ := bd_s hF
              refine kS_w (va_runV (As := [.ref (ad 2), .int p1, .int p2]) (rest := []) ⟨hx, hb, hml, hown, hts⟩ (c_X4_play l hz D ad ck f0 g0 a0 p1 p2 r7 he7) (cwV 3 hts gX11_years_X4_play rfl rfl rfl ⟨rfl, pX4_play⟩ ⟨Nat.le_of_ble_eq_true rfl, Nat.le_of_ble_eq_true rfl⟩) (kW.preV (va_recv hK hP (ci := 4) (q0 := 7) rfl rfl) hP (hE.kept hS hnA) hD hnA) rfl rfl hl.1 rfl (lv_room (Nat.le_of_ble_eq_true rfl)) dX11_years_50 ⟨Nat.le_refl _, Nat.le_refl _⟩) hD hS rfl (fun H locs hP hD hS => ?_)
              refine lv_iload_n hx hb dX11_years_53 rfl (lv_at hl 3 rfl) ?_
              by_cases hc8 : p3 = 0
              · have hF := it_p hc8 hF
                refine lv_lookup (tgt := 80) (off := 26) hx hb dX11_years_54 (by decide) (by rw [hc8]; decide) (by decide) ?_
                refine lv_aload_n hx hb dX11_years_80 rfl (lv_at hl 0 rfl) ?_
                refine va_get (D := D) (ci := 11) (v := .ref (ad 7)) (C := RX11) (T := TX11) (N := 10) hx hb hts hiX11 hown hK hP 0 rfl rfl 5 (by decide) hf47 (fun _ h9 => h9) rfl dX11_years_81 ?_
                refine va_get (D := D) (ci := 4) (v := .int (r7.1 19)) (C := RX4) (T := TX4) (N := 3) hx hb hts hiX4 hown hK hP 7 rfl rfl 1 (by decide) hf186 (fun _ h9 => h9) rfl dX11_years_84 ?_
                have hF := (Option.some.inj hF).trans hp
                subst hF
                exact W.iret hx hb hr (fun t ht hW => ⟨rfl, by rw [ht]; exact hP, hS.F ht⟩) hS.2.2 dX11_years_87
              have hF := it_n hc8 hF
              by_cases hc9 : p3 = 1
              · have hF := it_p hc9 hF
                refine lv_lookup (tgt := 88) (off := 34) hx hb dX11_years_54 (by decide) (by rw [hc9]; decide) (by decide) ?_
                refine lv_aload_n hx hb dX11_years_88 rfl (lv_at hl 0 rfl) ?_
                refine va_get (D := D) (ci := 11) (v := .ref (ad 7)) (C := RX11) (T := TX11) (N := 10) hx hb hts hiX11 hown hK hP 0 rfl rfl 5 (by decide) hf47 (fun _ h9 => h9) rfl dX11_years_89 ?_
                refine va_get (D := D) (ci := 4) (v := .int (r7.1 20)) (C := RX4) (T := TX4) (N := 3) hx hb hts hiX4 hown hK hP 7 rfl rfl 2 (by decide) hf189 (fun _ h9 => h9) rfl dX11_years_92 ?_
                have hF := (Option.some.inj hF).trans hp
                subst hF
                exact W.iret hx hb hr (fun t ht hW => ⟨rfl, by rw [ht]; exact hP, hS.F ht⟩) hS.2.2 dX11_years_95
              have hF := it_n hc9 hF
              refine lv_lookup (tgt := 96) (off := 42) hx hb dX11_years_54 (by decide) (by rw [lv_osw hc8 (by decide)]; rw [lv_osw hc9 (by decide)]; rfl) (by decide) ?_
              refine lv_aload_n hx hb dX11_years_96 rfl (lv_at hl 0 rfl) ?_
              refine va_get (D := D) (ci := 11) (v := .ref (ad 7)) (C := RX11) (T := TX11) (N := 10) hx hb hts hiX11 hown hK hP 0 rfl rfl 5 (by decide) hf47 (fun _ h9 => h9) rfl dX11_years_97 ?_
              refine va_get (D := D) (ci := 4) (v := .int (r7.1 18)) (C := RX4) (T := TX4) (N := 3) hx hb hts hiX4 hown hK hP 7 rfl rfl 0 (by decide) hf192 (fun _ h9 => h9) rfl dX11_years_100 ?_
              have hF := (Option.some.inj hF).trans hp
              subst hF
              exact W.iret hx hb hr (fun t ht hW => ⟨rfl, by rw [ht]; exact hP, hS.F ht⟩) hS.2.2 dX11_years_103
            · have hF := it_p hc6 hF
              refine lv_bipush (v := (-103)) hx hb dX11_years_37 (by decide) ?_
              have hF := (Option.some.inj hF).trans hp
              subst hF
              exact W.iret hx hb hr (fun t ht hW => ⟨rfl, by rw [ht]; exact hP, hS.F ht⟩) hS.2.2 dX11_years_39
          · have hF := it_n hc5 hF
            refine lv_bipush (v := (-102)) hx hb dX11_years_24 (by decide) ?_
            have hF := (Option.some.inj hF).trans hp
            subst hF
            exact W.iret hx hb hr (fun t ht hW => ⟨rfl, by rw [ht]; exact hP, hS.F ht⟩) hS.2.2 dX11_years_26

def F_X11_image (f0 : Nat → Int32) (g0 : Nat → Int64) (a0 : Nat → Nat → Int32) : Option (Int32 × ST) := if (f0 5) = 0 then some ((-103), f0, g0, a0) else (F_X3_copyK f0 g0 a0).bind fun r2 => some ((((upd r2.1 1 (r2.1 0)) 12) + ((upd r2.1 1 (r2.1 0)) 13)), (upd r2.1 1 (r2.1 0)), r2.2.1, r2.2.2)
set_option maxHeartbeats 4000000 in
set_option maxRecDepth 100000 in
theorem c_X11_image (l : Launch) (hz : Nat) (D : va_G) (ad : Nat → Nat) (ck : Nat → ClassId) (f0 : Nat → Int32) (g0 : Nat → Int64) (a0 : Nat → Nat → Int32) (out : (Int32 × ST)) (hF : F_X11_image f0 g0 a0 = some out) : Met l yX11_image wsX11_image ({ frames := 2, cells := 0, slots := 0, locals := 44 }) (kW hz D vwCl (tX ck) (wX ad ck f0 g0 a0) [.ref (ad 0)]) (kQ D vwCl (some (.int out.1)) (wX ad ck f0 g0 a0) (wX ad ck out.2.1 out.2.2.1 out.2.2.2)) 0 0 (kAd (wX ad ck f0 g0 a0)) := by
  refine Met.ofW (cc := cX11_image) (maxL := 1) (ret := (some .int)) (by decide) rfl ?_
  intro p e s m args below meth c s₁ B hml hv
  obtain ⟨rfl, hP, hE, hD0⟩ := hv
  have hx := B.exec
  have hb := B.bytes
  have hr := B.returns
  have hts := atoms_spec (ws := wsX11_image) B.pre
  have hown : s.vm.findClass RX11 = some m.cls := findClass_of_methodNamed B.named
  have hlocks := B.notSynchronized
  have hK := hE.1
  have hnA := kAd_up hD0
  have hD := kD_self hD0
  have hS : va_S (kAd (wX ad ck f0 g0 a0)) s.heap s.heap [] := va_S.rf
  have hiX11 : ∀ w ∈ u_ws RX11 TX11 10, w ∈ wsX11_image := by decide +kernel
  have hiX3 : ∀ w ∈ u_ws RX3 TX3 10, w ∈ wsX11_image := by decide +kernel
  have hiX9 : ∀ w ∈ u_ws RX9 TX9 4, w ∈ wsX11_image := by decide +kernel
  have hf19 := hts (.fieldLink RX11 19 "SpeltByFriends" "here" "LSpeltByFriends$Town;") (by decide +kernel)
  have hf26 := hts (.fieldLink RX11 26 "SpeltByFriends" "kept" "LSpeltByFriends$Ledger;") (by decide +kernel)
  have hf71 := hts (.fieldLink RX11 71 "SpeltByFriends" "townsRead" "I") (by decide +kernel)
  have hf74 := hts (.fieldLink RX11 74 "SpeltByFriends$Town" "size" "I") (by decide +kernel)
  have hf92 := hts (.fieldLink RX11 92 "SpeltByFriends$Town" "ledger" "LSpeltByFriends$Ledger;") (by decide +kernel)
  have hf105 := hts (.fieldLink RX11 105 "SpeltByFriends$Ledger" "went" "I") (by decide +kernel)
  have hf123 := hts (.fieldLink RX11 123 "SpeltByFriends$Ledger" "sold" "I") (by decide +kernel)
  have hf199 := hts (.fieldLink RX11 199 "SpeltByFriends" "keptOfTown" "I") (by decide +kernel)
  have hl := lv_entry ([.ref (ad 0)]) (n := 1) (Nat.le_of_ble_eq_true rfl)
  rw [lg_entry_eq]
  generalize (lg_sl ([.ref (ad 0)]) ++ List.replicate (1 - (lg_sl ([.ref (ad 0)])).length) Slot.unset).toArray = ls at hl ⊢
  have hl : lv_has ls 1 [(0, .ref (ad 0))] := hl
  obtain ⟨r, hF, hp⟩ : ∃ r, F_X11_image f0 g0 a0 = some r ∧ r = out := ⟨out, hF, rfl⟩
  unfold F_X11_image at hF
  refine lv_aload_n hx hb dX11_image_0 rfl (lv_at hl 0 rfl) ?_
  refine va_get (D := D) (ci := 11) (v := .ref (ad 2)) (C := RX11) (T := TX11) (N := 10) hx hb hts hiX11 hown hK hP 0 rfl rfl 1 (by decide) hf19 (fun _ h9 => h9) rfl dX11_image_1 ?_
  refine va_get (D := D) (ci := 9) (v := .int (f0 5)) (C := RX9) (T := TX9) (N := 4) hx hb hts hiX9 hown hK hP 2 rfl rfl 3 (by decide) hf74 (fun _ h9 => h9) rfl dX11_image_4 ?_
  refine lv_if_ne (tgt := 13) hx hb dX11_image_7 (by decide) (fun hc1 => ?_) (fun hc1 => ?_)
  · have hF := it_n hc1 hF
    refine lv_aload_n hx hb dX11_image_13 rfl (lv_at hl 0 rfl) ?_
    refine va_get (D := D) (ci := 11) (v := .ref (ad 4)) (C := RX11) (T := TX11) (N := 10) hx hb hts hiX11 hown hK hP 0 rfl rfl 2 (by decide) hf26 (fun _ h9 => h9) rfl dX11_image_14 ?_
    refine lv_aload_n hx hb dX11_image_17 rfl (lv_at hl 0 rfl) ?_
    refine va_get (D := D) (ci := 11) (v := .ref (ad 2)) (C := RX11) (T := TX11) (N := 10) hx hb hts hiX11 hown hK hP 0 rfl rfl 1 (by decide) hf19 (fun _ h9 => h9) rfl dX11_image_18 ?_
    refine va_get (D := D) (ci := 9) (v := .ref (ad 3)) (C := RX9) (T := TX9) (N := 4) hx hb hts hiX9 hown hK hP 2 rfl rfl 0 (by decide) hf92 (fun _ h9 => h9) rfl dX11_image_21 ?_
    obtain ⟨r2, he2, hF⟩ := bd_s hF
    refine kS_w (va_runV (As := [.ref (ad 3)]) (rest := []) ⟨hx, hb, hml, hown, hts⟩ (c_X3_copyK l hz D ad ck f0 g0 a0 r2 he2) (cwV 1 hts gX11_image_X3_copy rfl rfl rfl ⟨rfl, pX3_copy⟩ ⟨Nat.le_of_ble_eq_true rfl, Nat.le_of_ble_eq_true rfl⟩) (kW.preV (va_recv hK hP (ci := 3) (q0 := 4) rfl rfl) hP (hE.kept hS hnA) hD hnA) rfl rfl hl.1 rfl (lv_room (Nat.le_of_ble_eq_true rfl)) dX11_image_24 ⟨Nat.le_refl _, Nat.le_refl _⟩) hD hS rfl (fun H locs hP hD hS => ?_)
    refine lv_aload_n hx hb dX11_image_27 rfl (lv_at hl 0 rfl) ?_
    refine lv_aload_n hx hb dX11_image_28 rfl (lv_at hl 0 rfl) ?_
    refine va_get (D := D) (ci := 11) (v := .int (r2.1 0)) (C := RX11) (T := TX11) (N := 10) hx hb hts hiX11 hown hK hP 0 rfl rfl 6 (by decide) hf71 (fun _ h9 => h9) rfl dX11_image_29 ?_
    refine va_put (D := D) (ci := 11) (v := .int (r2.1 0)) (ty := .int) (C := RX11) (T := TX11) (N := 10) hx hb hts hiX11 tyX11 tyX11_ok nmX11 hown hK hP hD hS 0 rfl rfl 7 (by decide) hf199 (fun _ h9 => h9) rfl (tyX11_ok 7 (by decide)) rfl rfl (Nat.le_of_ble_eq_true rfl) dX11_image_32 (fun H locs hP hD hS => ?_)
    have hP := kPe (ef_wX0_7 ad ck r2.1 r2.2.1 r2.2.2 (r2.1 0)) hP
    have hD := kDe (ef_wX0_7 ad ck r2.1 r2.2.1 r2.2.2 (r2.1 0)) hD
    refine lv_aload_n hx hb dX11_image_35 rfl (lv_at hl 0 rfl) ?_
    refine va_get (D := D) (ci := 11) (v := .ref (ad 4)) (C := RX11) (T := TX11) (N := 10) hx hb hts hiX11 hown hK hP 0 rfl rfl 2 (by decide) hf26 (fun _ h9 => h9) rfl dX11_image_36 ?_
    refine va_get (D := D) (ci := 3) (v := .int ((upd r2.1 1 (r2.1 0)) 12)) (C := RX3) (T := TX3) (N := 10) hx hb hts hiX3 hown hK hP 4 rfl rfl 8 (by decide) hf105 (fun _ h9 => h9) rfl dX11_image_39 ?_
    refine lv_aload_n hx hb dX11_image_42 rfl (lv_at hl 0 rfl) ?_
    refine va_get (D := D) (ci := 11) (v := .ref (ad 4)) (C := RX11) (T := TX11) (N := 10) hx hb hts hiX11 hown hK hP 0 rfl rfl 2 (by decide) hf26 (fun _ h9 => h9) rfl dX11_image_43 ?_
    refine va_get (D := D) (ci := 3) (v := .int ((upd r2.1 1 (r2.1 0)) 13)) (C := RX3) (T := TX3) (N := 10) hx hb hts hiX3 hown hK hP 4 rfl rfl 9 (by decide) hf123 (fun _ h9 => h9) rfl dX11_image_46 ?_
    refine lv_iadd hx hb dX11_image_49 ?_
    have hF := (Option.some.inj hF).trans hp
    subst hF
    exact W.iret hx hb hr (fun t ht hW => ⟨rfl, by rw [ht]; exact hP, hS.F ht⟩) hS.2.2 dX11_image_50
  · have hF := it_p hc1 hF
    refine lv_bipush (v := (-103)) hx hb dX11_image_10 (by decide) ?_
    have hF := (Option.some.inj hF).trans hp
    subst hF
    exact W.iret hx hb hr (fun t ht hW => ⟨rfl, by rw [ht]; exact hP, hS.F ht⟩) hS.2.2 dX11_image_12

def F_X11_restore (f0 : Nat → Int32) (g0 : Nat → Int64) (a0 : Nat → Nat → Int32) : Option (Int32 × ST) := if (f0 1) = 0 then some ((-103), f0, g0, a0) else if (f0 1) = (f0 0) then (F_X3_copyH f0 g0 a0).bind fun r3 => some (((r3.1 12) + (r3.1 13)), r3.1, r3.2.1, r3.2.2) else some ((-103), f0, g0, a0)
set_option maxHeartbeats 4000000 in
set_option maxRecDepth 100000 in
theorem c_X11_restore (l : Launch) (hz : Nat) (D : va_G) (ad : Nat → Nat) (ck : Nat → ClassId) (f0 : Nat → Int32) (g0 : Nat → Int64) (a0 : Nat → Nat → Int32) (out : (Int32 × ST)) (hF : F_X11_restore f0 g0 a0 = some out) : Met l yX11_restore wsX11_restore ({ frames := 2, cells := 0, slots := 0, locals := 44 }) (kW hz D vwCl (tX ck) (wX ad ck f0 g0 a0) [.ref (ad 0)]) (kQ D vwCl (some (.int out.1)) (wX ad ck f0 g0 a0) (wX ad ck out.2.1 out.2.2.1 out.2.2.2)) 0 0 (kAd (wX ad ck f0 g0 a0)) := by
  refine Met.ofW (cc := cX11_restore) (maxL := 1) (ret := (some .int)) (by decide) rfl ?_
  intro p e s m args below meth c s₁ B hml hv
  obtain ⟨rfl, hP, hE, hD0⟩ := hv
  have hx := B.exec
  have hb := B.bytes
  have hr := B.returns
  have hts := atoms_spec (ws := wsX11_restore) B.pre
  have hown : s.vm.findClass RX11 = some m.cls := findClass_of_methodNamed B.named
  have hlocks := B.notSynchronized
  have hK := hE.1
  have hnA := kAd_up hD0
  have hD := kD_self hD0
  have hS : va_S (kAd (wX ad ck f0 g0 a0)) s.heap s.heap [] := va_S.rf
  have hiX11 : ∀ w ∈ u_ws RX11 TX11 10, w ∈ wsX11_restore := by decide +kernel
  have hiX3 : ∀ w ∈ u_ws RX3 TX3 10, w ∈ wsX11_restore := by decide +kernel
  have hiX9 : ∀ w ∈ u_ws RX9 TX9 4, w ∈ wsX11_restore := by decide +kernel
  have hf19 := hts (.fieldLink RX11 19 "SpeltByFriends" "here" "LSpeltByFriends$Town;") (by decide +kernel)
  have hf26 := hts (.fieldLink RX11 26 "SpeltByFriends" "kept" "LSpeltByFriends$Ledger;") (by decide +kernel)
  have hf71 := hts (.fieldLink RX11 71 "SpeltByFriends" "townsRead" "I") (by decide +kernel)
  have hf92 := hts (.fieldLink RX11 92 "SpeltByFriends$Town" "ledger" "LSpeltByFriends$Ledger;") (by decide +kernel)
  have hf105 := hts (.fieldLink RX11 105 "SpeltByFriends$Ledger" "went" "I") (by decide +kernel)
  have hf123 := hts (.fieldLink RX11 123 "SpeltByFriends$Ledger" "sold" "I") (by decide +kernel)
  have hf199 := hts (.fieldLink RX11 199 "SpeltByFriends" "keptOfTown" "I") (by decide +kernel)
  have hl := lv_entry ([.ref (ad 0)]) (n := 1) (Nat.le_of_ble_eq_true rfl)
  rw [lg_entry_eq]
  generalize (lg_sl ([.ref (ad 0)]) ++ List.replicate (1 - (lg_sl ([.ref (ad 0)])).length) Slot.unset).toArray = ls at hl ⊢
  have hl : lv_has ls 1 [(0, .ref (ad 0))] := hl
  obtain ⟨r, hF, hp⟩ : ∃ r, F_X11_restore f0 g0 a0 = some r ∧ r = out := ⟨out, hF, rfl⟩
  unfold F_X11_restore at hF
  refine lv_aload_n hx hb dX11_restore_0 rfl (lv_at hl 0 rfl) ?_
  refine va_get (D := D) (ci := 11) (v := .int (f0 1)) (C := RX11) (T := TX11) (N := 10) hx hb hts hiX11 hown hK hP 0 rfl rfl 7 (by decide) hf199 (fun _ h9 => h9) rfl dX11_restore_1 ?_
  refine lv_if_eq (tgt := 18) hx hb dX11_restore_4 (by decide) (fun hc1 => ?_) (fun hc1 => ?_)
  · have hF := it_p hc1 hF
    refine lv_bipush (v := (-103)) hx hb dX11_restore_18 (by decide) ?_
    have hF := (Option.some.inj hF).trans hp
    subst hF
    exact W.iret hx hb hr (fun t ht hW => ⟨rfl, by rw [ht]; exact hP, hS.F ht⟩) hS.2.2 dX11_restore_20
  · have hF := it_n hc1 hF
    refine lv_aload_n hx hb dX11_restore_7 rfl (lv_at hl 0 rfl) ?_
    refine va_get (D := D) (ci := 11) (v := .int (f0 1)) (C := RX11) (T := TX11) (N := 10) hx hb hts hiX11 hown hK hP 0 rfl rfl 7 (by decide) hf199 (fun _ h9 => h9) rfl dX11_restore_8 ?_
    refine lv_aload_n hx hb dX11_restore_11 rfl (lv_at hl 0 rfl) ?_
    refine va_get (D := D) (ci := 11) (v := .int (f0 0)) (C := RX11) (T := TX11) (N := 10) hx hb hts hiX11 hown hK hP 0 rfl rfl 6 (by decide) hf71 (fun _ h9 => h9) rfl dX11_restore_12 ?_
    refine lv_icmp_eq (tgt := 21) hx hb dX11_restore_15 (by decide) (fun hc2 => ?_) (fun hc2 => ?_)
    · have hF := it_p hc2 hF
      refine lv_aload_n hx hb dX11_restore_21 rfl (lv_at hl 0 rfl) ?_
      refine va_get (D := D) (ci := 11) (v := .ref (ad 2)) (C := RX11) (T := TX11) (N := 10) hx hb hts hiX11 hown hK hP 0 rfl rfl 1 (by decide) hf19 (fun _ h9 => h9) rfl dX11_restore_22 ?_
      refine va_get (D := D) (ci := 9) (v := .ref (ad 3)) (C := RX9) (T := TX9) (N := 4) hx hb hts hiX9 hown hK hP 2 rfl rfl 0 (by decide) hf92 (fun _ h9 => h9) rfl dX11_restore_25 ?_
      refine lv_aload_n hx hb dX11_restore_28 rfl (lv_at hl 0 rfl) ?_
      refine va_get (D := D) (ci := 11) (v := .ref (ad 4)) (C := RX11) (T := TX11) (N := 10) hx hb hts hiX11 hown hK hP 0 rfl rfl 2 (by decide) hf26 (fun _ h9 => h9) rfl dX11_restore_29 ?_
      obtain ⟨r3, he3, hF⟩ := bd_s hF
      refine kS_w (va_runV (As := [.ref (ad 4)]) (rest := []) ⟨hx, hb, hml, hown, hts⟩ (c_X3_copyH l hz D ad ck f0 g0 a0 r3 he3) (cwV 1 hts gX11_restore_X3_copy rfl rfl rfl ⟨rfl, pX3_copy⟩ ⟨Nat.le_of_ble_eq_true rfl, Nat.le_of_ble_eq_true rfl⟩) (kW.preV (va_recv hK hP (ci := 3) (q0 := 3) rfl rfl) hP (hE.kept hS hnA) hD hnA) rfl rfl hl.1 rfl (lv_room (Nat.le_of_ble_eq_true rfl)) dX11_restore_32 ⟨Nat.le_refl _, Nat.le_refl _⟩) hD hS rfl (fun H locs hP hD hS => ?_)
      refine lv_aload_n hx hb dX11_restore_35 rfl (lv_at hl 0 rfl) ?_
      refine va_get (D := D) (ci := 11) (v := .ref (ad 4)) (C := RX11) (T := TX11) (N := 10) hx hb hts hiX11 hown hK hP 0 rfl rfl 2 (by decide) hf26 (fun _ h9 => h9) rfl dX11_restore_36 ?_
      refine va_get (D := D) (ci := 3) (v := .int (r3.1 12)) (C := RX3) (T := TX3) (N := 10) hx hb hts hiX3 hown hK hP 4 rfl rfl 8 (by decide) hf105 (fun _ h9 => h9) rfl dX11_restore_39 ?_
      refine lv_aload_n hx hb dX11_restore_42 rfl (lv_at hl 0 rfl) ?_
      refine va_get (D := D) (ci := 11) (v := .ref (ad 4)) (C := RX11) (T := TX11) (N := 10) hx hb hts hiX11 hown hK hP 0 rfl rfl 2 (by decide) hf26 (fun _ h9 => h9) rfl dX11_restore_43 ?_
      refine va_get (D := D) (ci := 3) (v := .int (r3.1 13)) (C := RX3) (T := TX3) (N := 10) hx hb hts hiX3 hown hK hP 4 rfl rfl 9 (by decide) hf123 (fun _ h9 => h9) rfl dX11_restore_46 ?_
      refine lv_iadd hx hb dX11_restore_49 ?_
      have hF := (Option.some.inj hF).trans hp
      subst hF
      exact W.iret hx hb hr (fun t ht hW => ⟨rfl, by rw [ht]; exact hP, hS.F ht⟩) hS.2.2 dX11_restore_50
    · have hF := it_n hc2 hF
      refine lv_bipush (v := (-103)) hx hb dX11_restore_18 (by decide) ?_
      have hF := (Option.some.inj hF).trans hp
      subst hF
      exact W.iret hx hb hr (fun t ht hW => ⟨rfl, by rw [ht]; exact hP, hS.F ht⟩) hS.2.2 dX11_restore_20

def F_X11_count (f0 : Nat → Int32) (g0 : Nat → Int64) (a0 : Nat → Nat → Int32) (p1 : Int32) : Option Int32 := if p1 = 0 then some (f0 5) else (if p1 = 1 then (F_X9_howManyWritten f0 g0 a0 (f0 6)).bind fun r3 => some r3 else (if p1 = 2 then (F_X9_quarrellingPairs f0 g0 a0).bind fun r5 => some r5 else (if p1 = 3 then some (f0 8) else (if p1 = 4 then some (f0 9) else (if p1 = 5 then some (f0 7) else (if p1 = 6 then some (f0 4) else (if p1 = 7 then some (f0 0) else (if p1 = 8 then some (f0 2) else (if p1 = 9 then some (f0 3) else (some (-102)))))))))))
set_option maxHeartbeats 4000000 in
set_option maxRecDepth 100000 in
theorem c_X11_count (l : Launch) (hz : Nat) (D : va_G) (ad : Nat → Nat) (ck : Nat → ClassId) (f0 : Nat → Int32) (g0 : Nat → Int64) (a0 : Nat → Nat → Int32) (p1 : Int32) (out : Int32) (hF : F_X11_count f0 g0 a0 p1 = some out) : Met l yX11_count wsX11_count ({ frames := 5, cells := 0, slots := 0, locals := 117 }) (kR hz D vwCl (tX ck) (wX ad ck f0 g0 a0) [.ref (ad 0), .int p1]) (kZi out) 0 0 (fun _ => False) := by
  refine Met.ofW (cc := cX11_count) (maxL := 2) (ret := (some .int)) (by decide) rfl ?_
  intro p e s m args below meth c s₁ B hml hv
  obtain ⟨rfl, hP, hE⟩ := hv
  have hx := B.exec
  have hb := B.bytes
  have hr := B.returns
  have hts := atoms_spec (ws := wsX11_count) B.pre
  have hown : s.vm.findClass RX11 = some m.cls := findClass_of_methodNamed B.named
  have hlocks := B.notSynchronized
  have hK := hE.1
  have hiX11 : ∀ w ∈ u_ws RX11 TX11 10, w ∈ wsX11_count := by decide +kernel
  have hiX3 : ∀ w ∈ u_ws RX3 TX3 10, w ∈ wsX11_count := by decide +kernel
  have hiX5 : ∀ w ∈ u_ws RX5 TX5 2, w ∈ wsX11_count := by decide +kernel
  have hiX9 : ∀ w ∈ u_ws RX9 TX9 4, w ∈ wsX11_count := by decide +kernel
  have hf10 := hts (.fieldLink RX11 10 "SpeltByFriends" "page" "LSpeltByFriends$Page;") (by decide +kernel)
  have hf19 := hts (.fieldLink RX11 19 "SpeltByFriends" "here" "LSpeltByFriends$Town;") (by decide +kernel)
  have hf55 := hts (.fieldLink RX11 55 "SpeltByFriends$Page" "length" "I") (by decide +kernel)
  have hf71 := hts (.fieldLink RX11 71 "SpeltByFriends" "townsRead" "I") (by decide +kernel)
  have hf74 := hts (.fieldLink RX11 74 "SpeltByFriends$Town" "size" "I") (by decide +kernel)
  have hf92 := hts (.fieldLink RX11 92 "SpeltByFriends$Town" "ledger" "LSpeltByFriends$Ledger;") (by decide +kernel)
  have hf95 := hts (.fieldLink RX11 95 "SpeltByFriends$Ledger" "rooms" "I") (by decide +kernel)
  have hf105 := hts (.fieldLink RX11 105 "SpeltByFriends$Ledger" "went" "I") (by decide +kernel)
  have hf123 := hts (.fieldLink RX11 123 "SpeltByFriends$Ledger" "sold" "I") (by decide +kernel)
  have hf140 := hts (.fieldLink RX11 140 "SpeltByFriends" "movesDone" "I") (by decide +kernel)
  have hf153 := hts (.fieldLink RX11 153 "SpeltByFriends" "daysDone" "I") (by decide +kernel)
  have hf162 := hts (.fieldLink RX11 162 "SpeltByFriends$Ledger" "heard" "I") (by decide +kernel)
  have hl := lv_entry ([.ref (ad 0), .int p1]) (n := 2) (Nat.le_of_ble_eq_true rfl)
  rw [lg_entry_eq]
  generalize (lg_sl ([.ref (ad 0), .int p1]) ++ List.replicate (2 - (lg_sl ([.ref (ad 0), .int p1])).length) Slot.unset).toArray = ls at hl ⊢
  have hl : lv_has ls 2 [(0, .ref (ad 0)), (1, .int p1)] := hl
  obtain ⟨r, hF, hp⟩ : ∃ r, F_X11_count f0 g0 a0 p1 = some r ∧ r = out := ⟨out, hF, rfl⟩
  unfold F_X11_count at hF
  refine lv_iload_n hx hb dX11_count_0 rfl (lv_at hl 1 rfl) ?_
  by_cases hc1 : p1 = 0
  · have hF := it_p hc1 hF
    refine lv_tableIn (tgt := 56) (off := 55) hx hb dX11_count_1 (by rw [hc1]; decide) (by rw [hc1]; decide) (by rw [hc1]; rfl) (by decide) ?_
    refine lv_aload_n hx hb dX11_count_56 rfl (lv_at hl 0 rfl) ?_
    refine va_get (D := D) (ci := 11) (v := .ref (ad 2)) (C := RX11) (T := TX11) (N := 10) hx hb hts hiX11 hown hK hP 0 rfl rfl 1 (by decide) hf19 (fun _ h9 => h9) rfl dX11_count_57 ?_
    refine va_get (D := D) (ci := 9) (v := .int (f0 5)) (C := RX9) (T := TX9) (N := 4) hx hb hts hiX9 hown hK hP 2 rfl rfl 3 (by decide) hf74 (fun _ h9 => h9) rfl dX11_count_60 ?_
    exact W.iret hx hb hr (fun t ht hW => ⟨_, rfl, (Option.some.inj hF).trans hp, ht⟩) (fun q hq => by cases hq) dX11_count_63
  have hF := it_n hc1 hF
  by_cases hc2 : p1 = 1
  · have hF := it_p hc2 hF
    refine lv_tableIn (tgt := 64) (off := 63) hx hb dX11_count_1 (by rw [hc2]; decide) (by rw [hc2]; decide) (by rw [hc2]; rfl) (by decide) ?_
    refine lv_aload_n hx hb dX11_count_64 rfl (lv_at hl 0 rfl) ?_
    refine va_get (D := D) (ci := 11) (v := .ref (ad 2)) (C := RX11) (T := TX11) (N := 10) hx hb hts hiX11 hown hK hP 0 rfl rfl 1 (by decide) hf19 (fun _ h9 => h9) rfl dX11_count_65 ?_
    refine lv_aload_n hx hb dX11_count_68 rfl (lv_at hl 0 rfl) ?_
    refine va_get (D := D) (ci := 11) (v := .ref (ad 2)) (C := RX11) (T := TX11) (N := 10) hx hb hts hiX11 hown hK hP 0 rfl rfl 1 (by decide) hf19 (fun _ h9 => h9) rfl dX11_count_69 ?_
    refine va_get (D := D) (ci := 9) (v := .ref (ad 3)) (C := RX9) (T := TX9) (N := 4) hx hb hts hiX9 hown hK hP 2 rfl rfl 0 (by decide) hf92 (fun _ h9 => h9) rfl dX11_count_72 ?_
    refine va_get (D := D) (ci := 3) (v := .int (f0 6)) (C := RX3) (T := TX3) (N := 10) hx hb hts hiX3 hown hK hP 3 rfl rfl 6 (by decide) hf95 (fun _ h9 => h9) rfl dX11_count_75 ?_
    obtain ⟨r3, he3, hF⟩ := bd_s hF
    refine kS_i (va_runV (As := [.int (f0 6)]) (rest := []) ⟨hx, hb, hml, hown, hts⟩ (c_X9_howManyWritten l hz D ad ck f0 g0 a0 (f0 6) r3 he3) (cwV 1 hts gX11_count_X9_howManyWritten rfl rfl rfl ⟨rfl, pX9_howManyWritten⟩ ⟨Nat.le_of_ble_eq_true rfl, Nat.le_of_ble_eq_true rfl⟩) (kR.preV (va_recv hK hP (ci := 9) (q0 := 2) rfl rfl) hP hE) rfl rfl hl.1 rfl (lv_room (Nat.le_of_ble_eq_true rfl)) dX11_count_78 ⟨Nat.le_refl _, Nat.le_refl _⟩) ?_
    exact W.iret hx hb hr (fun t ht hW => ⟨_, rfl, (Option.some.inj hF).trans hp, ht⟩) (fun q hq => by cases hq) dX11_count_81
  have hF := it_n hc2 hF
  by_cases hc4 : p1 = 2
  · have hF := it_p hc4 hF
    refine lv_tableIn (tgt := 82) (off := 81) hx hb dX11_count_1 (by rw [hc4]; decide) (by rw [hc4]; decide) (by rw [hc4]; rfl) (by decide) ?_
    refine lv_aload_n hx hb dX11_count_82 rfl (lv_at hl 0 rfl) ?_
    refine va_get (D := D) (ci := 11) (v := .ref (ad 2)) (C := RX11) (T := TX11) (N := 10) hx hb hts hiX11 hown hK hP 0 rfl rfl 1 (by decide) hf19 (fun _ h9 => h9) rfl dX11_count_83 ?_
    obtain ⟨r5, he5, hF⟩ := bd_s hF
    refine kS_i (va_runV (As := []) (rest := []) ⟨hx, hb, hml, hown, hts⟩ (c_X9_quarrellingPairs l hz D ad ck f0 g0 a0 r5 he5) (cwV 0 hts gX11_count_X9_quarrellingPairs rfl rfl rfl ⟨rfl, pX9_quarrellingPairs⟩ ⟨Nat.le_of_ble_eq_true rfl, Nat.le_of_ble_eq_true rfl⟩) (kR.preV (va_recv hK hP (ci := 9) (q0 := 2) rfl rfl) hP hE) rfl rfl hl.1 rfl (lv_room (Nat.le_of_ble_eq_true rfl)) dX11_count_86 ⟨Nat.le_refl _, Nat.le_refl _⟩) ?_
    exact W.iret hx hb hr (fun t ht hW => ⟨_, rfl, (Option.some.inj hF).trans hp, ht⟩) (fun q hq => by cases hq) dX11_count_89
  have hF := it_n hc4 hF
  by_cases hc6 : p1 = 3
  · have hF := it_p hc6 hF
    refine lv_tableIn (tgt := 90) (off := 89) hx hb dX11_count_1 (by rw [hc6]; decide) (by rw [hc6]; decide) (by rw [hc6]; rfl) (by decide) ?_
    refine lv_aload_n hx hb dX11_count_90 rfl (lv_at hl 0 rfl) ?_
    refine va_get (D := D) (ci := 11) (v := .ref (ad 2)) (C := RX11) (T := TX11) (N := 10) hx hb hts hiX11 hown hK hP 0 rfl rfl 1 (by decide) hf19 (fun _ h9 => h9) rfl dX11_count_91 ?_
    refine va_get (D := D) (ci := 9) (v := .ref (ad 3)) (C := RX9) (T := TX9) (N := 4) hx hb hts hiX9 hown hK hP 2 rfl rfl 0 (by decide) hf92 (fun _ h9 => h9) rfl dX11_count_94 ?_
    refine va_get (D := D) (ci := 3) (v := .int (f0 8)) (C := RX3) (T := TX3) (N := 10) hx hb hts hiX3 hown hK hP 3 rfl rfl 8 (by decide) hf105 (fun _ h9 => h9) rfl dX11_count_97 ?_
    exact W.iret hx hb hr (fun t ht hW => ⟨_, rfl, (Option.some.inj hF).trans hp, ht⟩) (fun q hq => by cases hq) dX11_count_100
  have hF := it_n hc6 hF
  by_cases hc7 : p1 = 4
  · have hF := it_p hc7 hF
    refine lv_tableIn (tgt := 101) (off := 100) hx hb dX11_count_1 (by rw [hc7]; decide) (by rw [hc7]; decide) (by rw [hc7]; rfl) (by decide) ?_
    refine lv_aload_n hx hb dX11_count_101 rfl (lv_at hl 0 rfl) ?_
    refine va_get (D := D) (ci := 11) (v := .ref (ad 2)) (C := RX11) (T := TX11) (N := 10) hx hb hts hiX11 hown hK hP 0 rfl rfl 1 (by decide) hf19 (fun _ h9 => h9) rfl dX11_count_102 ?_
    refine va_get (D := D) (ci := 9) (v := .ref (ad 3)) (C := RX9) (T := TX9) (N := 4) hx hb hts hiX9 hown hK hP 2 rfl rfl 0 (by decide) hf92 (fun _ h9 => h9) rfl dX11_count_105 ?_
    refine va_get (D := D) (ci := 3) (v := .int (f0 9)) (C := RX3) (T := TX3) (N := 10) hx hb hts hiX3 hown hK hP 3 rfl rfl 9 (by decide) hf123 (fun _ h9 => h9) rfl dX11_count_108 ?_
    exact W.iret hx hb hr (fun t ht hW => ⟨_, rfl, (Option.some.inj hF).trans hp, ht⟩) (fun q hq => by cases hq) dX11_count_111
  have hF := it_n hc7 hF
  by_cases hc8 : p1 = 5
  · have hF := it_p hc8 hF
    refine lv_tableIn (tgt := 112) (off := 111) hx hb dX11_count_1 (by rw [hc8]; decide) (by rw [hc8]; decide) (by rw [hc8]; rfl) (by decide) ?_
    refine lv_aload_n hx hb dX11_count_112 rfl (lv_at hl 0 rfl) ?_
    refine va_get (D := D) (ci := 11) (v := .ref (ad 2)) (C := RX11) (T := TX11) (N := 10) hx hb hts hiX11 hown hK hP 0 rfl rfl 1 (by decide) hf19 (fun _ h9 => h9) rfl dX11_count_113 ?_
    refine va_get (D := D) (ci := 9) (v := .ref (ad 3)) (C := RX9) (T := TX9) (N := 4) hx hb hts hiX9 hown hK hP 2 rfl rfl 0 (by decide) hf92 (fun _ h9 => h9) rfl dX11_count_116 ?_
    refine va_get (D := D) (ci := 3) (v := .int (f0 7)) (C := RX3) (T := TX3) (N := 10) hx hb hts hiX3 hown hK hP 3 rfl rfl 7 (by decide) hf162 (fun _ h9 => h9) rfl dX11_count_119 ?_
    exact W.iret hx hb hr (fun t ht hW => ⟨_, rfl, (Option.some.inj hF).trans hp, ht⟩) (fun q hq => by cases hq) dX11_count_122
  have hF := it_n hc8 hF
  by_cases hc9 : p1 = 6
  · have hF := it_p hc9 hF
    refine lv_tableIn (tgt := 123) (off := 122) hx hb dX11_count_1 (by rw [hc9]; decide) (by rw [hc9]; decide) (by rw [hc9]; rfl) (by decide) ?_
    refine lv_aload_n hx hb dX11_count_123 rfl (lv_at hl 0 rfl) ?_
    refine va_get (D := D) (ci := 11) (v := .ref (ad 1)) (C := RX11) (T := TX11) (N := 10) hx hb hts hiX11 hown hK hP 0 rfl rfl 0 (by decide) hf10 (fun _ h9 => h9) rfl dX11_count_124 ?_
    refine va_get (D := D) (ci := 5) (v := .int (f0 4)) (C := RX5) (T := TX5) (N := 2) hx hb hts hiX5 hown hK hP 1 rfl rfl 1 (by decide) hf55 (fun _ h9 => h9) rfl dX11_count_127 ?_
    exact W.iret hx hb hr (fun t ht hW => ⟨_, rfl, (Option.some.inj hF).trans hp, ht⟩) (fun q hq => by cases hq) dX11_count_130
  have hF := it_n hc9 hF
  by_cases hc10 : p1 = 7
  · have hF := it_p hc10 hF
    refine lv_tableIn (tgt := 131) (off := 130) hx hb dX11_count_1 (by rw [hc10]; decide) (by rw [hc10]; decide) (by rw [hc10]; rfl) (by decide) ?_
    refine lv_aload_n hx hb dX11_count_131 rfl (lv_at hl 0 rfl) ?_
    refine va_get (D := D) (ci := 11) (v := .int (f0 0)) (C := RX11) (T := TX11) (N := 10) hx hb hts hiX11 hown hK hP 0 rfl rfl 6 (by decide) hf71 (fun _ h9 => h9) rfl dX11_count_132 ?_
    exact W.iret hx hb hr (fun t ht hW => ⟨_, rfl, (Option.some.inj hF).trans hp, ht⟩) (fun q hq => by cases hq) dX11_count_135
  have hF := it_n hc10 hF
  by_cases hc11 : p1 = 8
  · have hF := it_p hc11 hF
    refine lv_tableIn (tgt := 136) (off := 135) hx hb dX11_count_1 (by rw [hc11]; decide) (by rw [hc11]; decide) (by rw [hc11]; rfl) (by decide) ?_
    refine lv_aload_n hx hb dX11_count_136 rfl (lv_at hl 0 rfl) ?_
    refine va_get (D := D) (ci := 11) (v := .int (f0 2)) (C := RX11) (T := TX11) (N := 10) hx hb hts hiX11 hown hK hP 0 rfl rfl 8 (by decide) hf140 (fun _ h9 => h9) rfl dX11_count_137 ?_
    exact W.iret hx hb hr (fun t ht hW => ⟨_, rfl, (Option.some.inj hF).trans hp, ht⟩) (fun q hq => by cases hq) dX11_count_140
  have hF := it_n hc11 hF
  by_cases hc12 : p1 = 9
  · have hF := it_p hc12 hF
    refine lv_tableIn (tgt := 141) (off := 140) hx hb dX11_count_1 (by rw [hc12]; decide) (by rw [hc12]; decide) (by rw [hc12]; rfl) (by decide) ?_
    refine lv_aload_n hx hb dX11_count_141 rfl (lv_at hl 0 rfl) ?_
    refine va_get (D := D) (ci := 11) (v := .int (f0 3)) (C := RX11) (T := TX11) (N := 10) hx hb hts hiX11 hown hK hP 0 rfl rfl 9 (by decide) hf153 (fun _ h9 => h9) rfl dX11_count_142 ?_
    exact W.iret hx hb hr (fun t ht hW => ⟨_, rfl, (Option.some.inj hF).trans hp, ht⟩) (fun q hq => by cases hq) dX11_count_145
  have hF := it_n hc12 hF
  refine lv_tableOut (tgt := 146) hx hb dX11_count_1 (by have z0 := lv_neT (a := 0) hc1 (by decide); have z1 := lv_neT (a := 1) hc2 (by decide); have z2 := lv_neT (a := 2) hc4 (by decide); have z3 := lv_neT (a := 3) hc6 (by decide); have z4 := lv_neT (a := 4) hc7 (by decide); have z5 := lv_neT (a := 5) hc8 (by decide); have z6 := lv_neT (a := 6) hc9 (by decide); have z7 := lv_neT (a := 7) hc10 (by decide); have z8 := lv_neT (a := 8) hc11 (by decide); have z9 := lv_neT (a := 9) hc12 (by decide); omega) (by decide) ?_
  refine lv_bipush (v := (-102)) hx hb dX11_count_146 (by decide) ?_
  exact W.iret hx hb hr (fun t ht hW => ⟨_, rfl, (Option.some.inj hF).trans hp, ht⟩) (fun q hq => by cases hq) dX11_count_148

def B_X11_digest_155 (f155 : Nat → Int32) (g155 : Nat → Int64) (a155 : Nat → Nat → Int32) (x1_155 : Int64) (x3_155 : Int32) : Option ((Int64 × Int32 × ST) ⊕ (Int64 × ST)) := if 10 ≤ x3_155 then Option.map Sum.inr (some (x1_155, f155, g155, a155)) else (F_X11_count f155 g155 a155 x3_155).bind fun r4 => some (.inl ((((31 : Int64) * x1_155) + (r4.toInt64)), (x3_155 + 1), f155, g155, a155))
def N_X11_digest_155 (f155 : Nat → Int32) (g155 : Nat → Int64) (a155 : Nat → Nat → Int32) (x1_155 : Int64) (x3_155 : Int32) : Option (Int64 × ST) := lpN (fun q155 : (Int64 × Int32 × ST) => B_X11_digest_155 q155.2.2.1 q155.2.2.2.1 q155.2.2.2.2 q155.1 q155.2.1) kFu (x1_155, x3_155, f155, g155, a155)
def B_X11_digest_117 (f117 : Nat → Int32) (g117 : Nat → Int64) (a117 : Nat → Nat → Int32) (x1_117 : Int64) (x3_117 : Int32) : Option ((Int64 × Int32 × ST) ⊕ (Int64 × ST)) := if (f117 4) ≤ x3_117 then Option.map Sum.inr (N_X11_digest_155 f117 g117 a117 x1_117 0) else some (.inl ((((31 : Int64) * x1_117) + ((F_at 21 (a117 13) x3_117).toInt64)), (x3_117 + 1), f117, g117, a117))
def N_X11_digest_117 (f117 : Nat → Int32) (g117 : Nat → Int64) (a117 : Nat → Nat → Int32) (x1_117 : Int64) (x3_117 : Int32) : Option (Int64 × ST) := lpN (fun q117 : (Int64 × Int32 × ST) => B_X11_digest_117 q117.2.2.1 q117.2.2.2.1 q117.2.2.2.2 q117.1 q117.2.1) kFu (x1_117, x3_117, f117, g117, a117)
def B_X11_digest_20 (f20 : Nat → Int32) (g20 : Nat → Int64) (a20 : Nat → Nat → Int32) (x1_20 : Int64) (x3_20 : Int32) (x4_20 : Int32) : Option ((Int64 × Int32 × ST) ⊕ ((Int64 × Int32 × ST) ⊕ (Int64 × ST))) := if 9 ≤ x4_20 then Option.map Sum.inr ((F_X1_gather f20 g20 a20 x3_20).bind fun r6 => (F_X1_bestCompany r6.1 r6.2.1 r6.2.2).bind fun r7 => some (.inl ((((31 : Int64) * (((31 : Int64) * (((31 : Int64) * x1_20) + ((r6.1 17).toInt64))) + ((F_X1_least r6.1 r6.2.1 r6.2.2).toInt64))) + (r7.toInt64)), (x3_20 + 1), r6.1, r6.2.1, r6.2.2))) else (F_X11_tellAbout f20 g20 a20 x3_20 x4_20).bind fun r8 => some (.inl ((((31 : Int64) * x1_20) + (r8.toInt64)), (x4_20 + 1), f20, g20, a20))
def N_X11_digest_20 (f20 : Nat → Int32) (g20 : Nat → Int64) (a20 : Nat → Nat → Int32) (x1_20 : Int64) (x3_20 : Int32) (x4_20 : Int32) : Option ((Int64 × Int32 × ST) ⊕ (Int64 × ST)) := lpN (fun q20 : (Int64 × Int32 × ST) => B_X11_digest_20 q20.2.2.1 q20.2.2.2.1 q20.2.2.2.2 q20.1 x3_20 q20.2.1) kFu (x1_20, x4_20, f20, g20, a20)
def B_X11_digest_6 (f6 : Nat → Int32) (g6 : Nat → Int64) (a6 : Nat → Nat → Int32) (x1_6 : Int64) (x3_6 : Int32) : Option ((Int64 × Int32 × ST) ⊕ (Int64 × ST)) := if (f6 5) ≤ x3_6 then Option.map Sum.inr (N_X11_digest_117 f6 g6 a6 x1_6 0) else N_X11_digest_20 f6 g6 a6 x1_6 x3_6 0
def N_X11_digest_6 (f6 : Nat → Int32) (g6 : Nat → Int64) (a6 : Nat → Nat → Int32) (x1_6 : Int64) (x3_6 : Int32) : Option (Int64 × ST) := lpN (fun q6 : (Int64 × Int32 × ST) => B_X11_digest_6 q6.2.2.1 q6.2.2.2.1 q6.2.2.2.2 q6.1 q6.2.1) kFu (x1_6, x3_6, f6, g6, a6)
def F_X11_digest (f0 : Nat → Int32) (g0 : Nat → Int64) (a0 : Nat → Nat → Int32) : Option (Int64 × ST) := N_X11_digest_6 f0 g0 a0 983 0
set_option maxHeartbeats 4000000 in
set_option maxRecDepth 100000 in
theorem c_X11_digest (l : Launch) (hz : Nat) (D : va_G) (ad : Nat → Nat) (ck : Nat → ClassId) (f0 : Nat → Int32) (g0 : Nat → Int64) (a0 : Nat → Nat → Int32) (out : (Int64 × ST)) (hF : F_X11_digest f0 g0 a0 = some out) : Met l yX11_digest wsX11_digest ({ frames := 6, cells := 0, slots := 0, locals := 140 }) (kW hz D vwCl (tX ck) (wX ad ck f0 g0 a0) [.ref (ad 0)]) (kQ D vwCl (some (.long out.1)) (wX ad ck f0 g0 a0) (wX ad ck out.2.1 out.2.2.1 out.2.2.2)) 0 0 (kAd (wX ad ck f0 g0 a0)) := by
  refine Met.ofW (cc := cX11_digest) (maxL := 5) (ret := (some .long)) (by decide) rfl ?_
  intro p e s m args below meth c s₁ B hml hv
  obtain ⟨rfl, hP, hE, hD0⟩ := hv
  have hx := B.exec
  have hb := B.bytes
  have hr := B.returns
  have hts := atoms_spec (ws := wsX11_digest) B.pre
  have hown : s.vm.findClass RX11 = some m.cls := findClass_of_methodNamed B.named
  have hlocks := B.notSynchronized
  have hK := hE.1
  have hnA := kAd_up hD0
  have hD := kD_self hD0
  have hS : va_S (kAd (wX ad ck f0 g0 a0)) s.heap s.heap [] := va_S.rf
  have hiX1 : ∀ w ∈ u_ws RX1 TX1 4, w ∈ wsX11_digest := by decide +kernel
  have hiX11 : ∀ w ∈ u_ws RX11 TX11 10, w ∈ wsX11_digest := by decide +kernel
  have hiX5 : ∀ w ∈ u_ws RX5 TX5 2, w ∈ wsX11_digest := by decide +kernel
  have hiX9 : ∀ w ∈ u_ws RX9 TX9 4, w ∈ wsX11_digest := by decide +kernel
  have hf10 := hts (.fieldLink RX11 10 "SpeltByFriends" "page" "LSpeltByFriends$Page;") (by decide +kernel)
  have hf19 := hts (.fieldLink RX11 19 "SpeltByFriends" "here" "LSpeltByFriends$Town;") (by decide +kernel)
  have hf40 := hts (.fieldLink RX11 40 "SpeltByFriends" "guesses" "LSpeltByFriends$Guesses;") (by decide +kernel)
  have hf55 := hts (.fieldLink RX11 55 "SpeltByFriends$Page" "length" "I") (by decide +kernel)
  have hf74 := hts (.fieldLink RX11 74 "SpeltByFriends$Town" "size" "I") (by decide +kernel)
  have hf172 := hts (.fieldLink RX11 172 "SpeltByFriends$Guesses" "many" "I") (by decide +kernel)
  have hf213 := hts (.fieldLink RX11 213 "SpeltByFriends$Page" "letters" "[I") (by decide +kernel)
  have hN_155 : ∀ (n155 : Nat) (f155 : Nat → Int32) (g155 : Nat → Int64) (a155 : Nat → Nat → Int32) (H : Heap) (locs : List Loc) (x1_155 : Int64) (x3_155 : Int32) (ls : Array Slot), va_P D vwCl (wX ad ck f155 g155 a155) H → va_D (kAd (wX ad ck f0 g0 a0)) (wX ad ck f155 g155 a155) → va_S (kAd (wX ad ck f0 g0 a0)) s.heap H locs → lv_has ls 5 [(0, .ref (ad 0)), (1, .long x1_155), (3, .int x3_155)] → ∀ r : (Int64 × ST), lpN (fun q155 : (Int64 × Int32 × ST) => B_X11_digest_155 q155.2.2.1 q155.2.2.2.1 q155.2.2.2.2 q155.1 q155.2.1) n155 (x1_155, x3_155, f155, g155, a155) = some r → (fun r => r = out) r → W p l e (headSpec wsX11_digest ({ frames := 6, cells := 0, slots := 0, locals := 140 })).room s m [.ref (ad 0)].toArray below meth c H locs 0 0 (MQ below (kQ D vwCl (some (.long out.1)) (wX ad ck f0 g0 a0) (wX ad ck out.2.1 out.2.2.1 out.2.2.2)) [.ref (ad 0)].toArray s 0 0 (kAd (wX ad ck f0 g0 a0))) (F0 m 155 ls []) := by
    intro n155
    induction n155 with
    | zero => intro f155 g155 a155 H locs x1_155 x3_155 ls hP hD hS hl r hF hp; exact (lp_z hF).elim
    | succ n155 ih155 =>
      intro f155 g155 a155 H locs x1_155 x3_155 ls hP hD hS hl r hF hp
      obtain ⟨rs, hF, hp⟩ := lpN_K (P := (fun r => r = out)) hF hp
      unfold B_X11_digest_155 at hF
      refine lv_iload_n hx hb dX11_digest_155 rfl (lv_at hl 2 rfl) ?_
      refine lv_bipush (v := 10) hx hb dX11_digest_156 (by decide) ?_
      refine lv_icmp_ge (tgt := 180) hx hb dX11_digest_158 (by decide) (fun hc3 => ?_) (fun hc3 => ?_)
      · have hF := it_p hc3 hF
        obtain ⟨r, hF1, hr0⟩ := mp_s hF
        clear hF
        subst hr0
        have hF := hF1
        clear hF1
        have hp : (fun r => r = out) r := hp
        refine lv_lload_n hx hb dX11_digest_180 rfl (lv_at hl 1 rfl) ?_
        have hF := (Option.some.inj hF).trans hp
        subst hF
        exact W.lret hx hb hr (fun t ht hW => ⟨rfl, by rw [ht]; exact hP, hS.F ht⟩) hS.2.2 dX11_digest_181
      · have hF := it_n hc3 hF
        refine lv_ldc2 (v := 31) hx hb hown (hts (.constantLong RX11 211 (31)) (by decide +kernel)) dX11_digest_161 ?_
        refine lv_lload_n hx hb dX11_digest_164 rfl (lv_at hl 1 rfl) ?_
        refine lv_lmul hx hb dX11_digest_165 ?_
        refine lv_aload_n hx hb dX11_digest_166 rfl (lv_at hl 0 rfl) ?_
        refine lv_iload_n hx hb dX11_digest_167 rfl (lv_at hl 2 rfl) ?_
        obtain ⟨r4, he4, hF⟩ := bd_s hF
        refine kS_i (va_runV (As := [.int x3_155]) (rest := [.long ((31 : Int64) * x1_155)]) ⟨hx, hb, hml, hown, hts⟩ (c_X11_count l hz D ad ck f155 g155 a155 x3_155 r4 he4) (cwV 1 hts gX11_digest_X11_count rfl rfl rfl ⟨rfl, pX11_count⟩ ⟨Nat.le_of_ble_eq_true rfl, Nat.le_of_ble_eq_true rfl⟩) (kR.preV (va_recv hK hP (ci := 11) (q0 := 0) rfl rfl) hP (hE.kept hS hnA)) rfl rfl hl.1 rfl (lv_room (Nat.le_of_ble_eq_true rfl)) dX11_digest_168 ⟨Nat.le_refl _, Nat.le_refl _⟩) ?_
        refine lv_i2l (v := r4.toInt64) hx hb dX11_digest_171 rfl ?_
        refine lv_ladd hx hb dX11_digest_172 ?_
        refine lv_lstore_n (lv' := [(1, .long (((31 : Int64) * x1_155) + (r4.toInt64))), (0, .ref (ad 0)), (3, .int x3_155)]) hx hb dX11_digest_173 rfl hl (by decide) rfl (fun ls hl => ?_)
        refine lv_iinc (v := (x3_155 + 1)) (lv' := [(3, .int (x3_155 + 1)), (1, .long (((31 : Int64) * x1_155) + (r4.toInt64))), (0, .ref (ad 0))]) hx hb dX11_digest_174 hl (k := 2) rfl rfl (by decide) rfl (fun ls hl => ?_)
        refine lv_goto (tgt := 155) hx hb dX11_digest_177 (by decide) ?_
        have hF := Option.some.inj hF
        subst hF
        obtain ⟨r, hF, hp⟩ := hp
        exact ih155 f155 g155 a155 _ _ (((31 : Int64) * x1_155) + (r4.toInt64)) (x3_155 + 1) ls hP hD hS (lv_sub hl [2, 1, 0] rfl) r hF hp
  have hN_117 : ∀ (n117 : Nat) (f117 : Nat → Int32) (g117 : Nat → Int64) (a117 : Nat → Nat → Int32) (H : Heap) (locs : List Loc) (x1_117 : Int64) (x3_117 : Int32) (ls : Array Slot), va_P D vwCl (wX ad ck f117 g117 a117) H → va_D (kAd (wX ad ck f0 g0 a0)) (wX ad ck f117 g117 a117) → va_S (kAd (wX ad ck f0 g0 a0)) s.heap H locs → lv_has ls 5 [(0, .ref (ad 0)), (1, .long x1_117), (3, .int x3_117)] → ∀ r : (Int64 × ST), lpN (fun q117 : (Int64 × Int32 × ST) => B_X11_digest_117 q117.2.2.1 q117.2.2.2.1 q117.2.2.2.2 q117.1 q117.2.1) n117 (x1_117, x3_117, f117, g117, a117) = some r → (fun r => r = out) r → W p l e (headSpec wsX11_digest ({ frames := 6, cells := 0, slots := 0, locals := 140 })).room s m [.ref (ad 0)].toArray below meth c H locs 0 0 (MQ below (kQ D vwCl (some (.long out.1)) (wX ad ck f0 g0 a0) (wX ad ck out.2.1 out.2.2.1 out.2.2.2)) [.ref (ad 0)].toArray s 0 0 (kAd (wX ad ck f0 g0 a0))) (F0 m 117 ls []) := by
    intro n117
    induction n117 with
    | zero => intro f117 g117 a117 H locs x1_117 x3_117 ls hP hD hS hl r hF hp; exact (lp_z hF).elim
    | succ n117 ih117 =>
      intro f117 g117 a117 H locs x1_117 x3_117 ls hP hD hS hl r hF hp
      obtain ⟨rs, hF, hp⟩ := lpN_K (P := (fun r => r = out)) hF hp
      unfold B_X11_digest_117 at hF
      refine lv_iload_n hx hb dX11_digest_117 rfl (lv_at hl 2 rfl) ?_
      refine lv_aload_n hx hb dX11_digest_118 rfl (lv_at hl 0 rfl) ?_
      refine va_get (D := D) (ci := 11) (v := .ref (ad 1)) (C := RX11) (T := TX11) (N := 10) hx hb hts hiX11 hown hK hP 0 rfl rfl 0 (by decide) hf10 (fun _ h9 => h9) rfl dX11_digest_119 ?_
      refine va_get (D := D) (ci := 5) (v := .int (f117 4)) (C := RX5) (T := TX5) (N := 2) hx hb hts hiX5 hown hK hP 1 rfl rfl 1 (by decide) hf55 (fun _ h9 => h9) rfl dX11_digest_122 ?_
      refine lv_icmp_ge (tgt := 153) hx hb dX11_digest_125 (by decide) (fun hc2 => ?_) (fun hc2 => ?_)
      · have hF := it_p hc2 hF
        obtain ⟨r, hF1, hr0⟩ := mp_s hF
        clear hF
        subst hr0
        have hF := hF1
        clear hF1
        have hp : (fun r => r = out) r := hp
        refine lv_iconst (v := 0) hx hb dX11_digest_153 (by decide) ?_
        refine lv_istore_n (lv' := [(3, .int 0), (0, .ref (ad 0)), (1, .long x1_117)]) hx hb dX11_digest_154 rfl hl (by decide) rfl (fun ls hl => ?_)
        exact hN_155 kFu f117 g117 a117 _ _ x1_117 0 ls hP hD hS (lv_sub hl [1, 2, 0] rfl) _ hF hp
      · have hF := it_n hc2 hF
        refine lv_ldc2 (v := 31) hx hb hown (hts (.constantLong RX11 211 (31)) (by decide +kernel)) dX11_digest_128 ?_
        refine lv_lload_n hx hb dX11_digest_131 rfl (lv_at hl 1 rfl) ?_
        refine lv_lmul hx hb dX11_digest_132 ?_
        refine lv_aload_n hx hb dX11_digest_133 rfl (lv_at hl 0 rfl) ?_
        refine va_get (D := D) (ci := 11) (v := .ref (ad 1)) (C := RX11) (T := TX11) (N := 10) hx hb hts hiX11 hown hK hP 0 rfl rfl 0 (by decide) hf10 (fun _ h9 => h9) rfl dX11_digest_134 ?_
        refine va_get (D := D) (ci := 5) (v := .ref (ad 13)) (C := RX5) (T := TX5) (N := 2) hx hb hts hiX5 hown hK hP 1 rfl rfl 0 (by decide) hf213 (fun _ h9 => h9) rfl dX11_digest_137 ?_
        refine lv_iload_n hx hb dX11_digest_140 rfl (lv_at hl 2 rfl) ?_
        refine kS_i (va_runS (As := [.ref (ad 13), .int x3_117]) (rest := [.long ((31 : Int64) * x1_117)]) ⟨hx, hb, hml, hown, hts⟩ (c_X11_at l hz D (tX ck) (wX ad ck f117 g117 a117) 13 0 rfl rfl (by decide) x3_117) (va_cwS 2 hts gX11_digest_X11_at rfl rfl rfl pX11_at ⟨Nat.le_of_ble_eq_true rfl, Nat.le_of_ble_eq_true rfl⟩) (kR.preS hP (hE.kept hS hnA)) rfl rfl hl.1 rfl (lv_room (Nat.le_of_ble_eq_true rfl)) dX11_digest_141 ⟨Nat.le_refl _, Nat.le_refl _⟩) ?_
        refine lv_i2l (v := (F_at 21 (a117 13) x3_117).toInt64) hx hb dX11_digest_144 rfl ?_
        refine lv_ladd hx hb dX11_digest_145 ?_
        refine lv_lstore_n (lv' := [(1, .long (((31 : Int64) * x1_117) + ((F_at 21 (a117 13) x3_117).toInt64))), (0, .ref (ad 0)), (3, .int x3_117)]) hx hb dX11_digest_146 rfl hl (by decide) rfl (fun ls hl => ?_)
        refine lv_iinc (v := (x3_117 + 1)) (lv' := [(3, .int (x3_117 + 1)), (1, .long (((31 : Int64) * x1_117) + ((F_at 21 (a117 13) x3_117).toInt64))), (0, .ref (ad 0))]) hx hb dX11_digest_147 hl (k := 2) rfl rfl (by decide) rfl (fun ls hl => ?_)
        refine lv_goto (tgt := 117) hx hb dX11_digest_150 (by decide) ?_
        have hF := Option.some.inj hF
        subst hF
        obtain ⟨r, hF, hp⟩ := hp
        exact ih117 f117 g117 a117 _ _ (((31 : Int64) * x1_117) + ((F_at 21 (a117 13) x3_117).toInt64)) (x3_117 + 1) ls hP hD hS (lv_sub hl [2, 1, 0] rfl) r hF hp
  have hN_6 : ∀ (n6 : Nat) (f6 : Nat → Int32) (g6 : Nat → Int64) (a6 : Nat → Nat → Int32) (H : Heap) (locs : List Loc) (x1_6 : Int64) (x3_6 : Int32) (ls : Array Slot), va_P D vwCl (wX ad ck f6 g6 a6) H → va_D (kAd (wX ad ck f0 g0 a0)) (wX ad ck f6 g6 a6) → va_S (kAd (wX ad ck f0 g0 a0)) s.heap H locs → lv_has ls 5 [(0, .ref (ad 0)), (1, .long x1_6), (3, .int x3_6)] → ∀ r : (Int64 × ST), lpN (fun q6 : (Int64 × Int32 × ST) => B_X11_digest_6 q6.2.2.1 q6.2.2.2.1 q6.2.2.2.2 q6.1 q6.2.1) n6 (x1_6, x3_6, f6, g6, a6) = some r → (fun r => r = out) r → W p l e (headSpec wsX11_digest ({ frames := 6, cells := 0, slots := 0, locals := 140 })).room s m [.ref (ad 0)].toArray below meth c H locs 0 0 (MQ below (kQ D vwCl (some (.long out.1)) (wX ad ck f0 g0 a0) (wX ad ck out.2.1 out.2.2.1 out.2.2.2)) [.ref (ad 0)].toArray s 0 0 (kAd (wX ad ck f0 g0 a0))) (F0 m 6 ls []) := by
    intro n6
    induction n6 with
    | zero => intro f6 g6 a6 H locs x1_6 x3_6 ls hP hD hS hl r hF hp; exact (lp_z hF).elim
    | succ n6 ih6 =>
      intro f6 g6 a6 H locs x1_6 x3_6 ls hP hD hS hl r hF hp
      obtain ⟨rs, hF, hp⟩ := lpN_K (P := (fun r => r = out)) hF hp
      have hN_20 : ∀ (x3_20 : Int32) (n20 : Nat) (f20 : Nat → Int32) (g20 : Nat → Int64) (a20 : Nat → Nat → Int32) (H : Heap) (locs : List Loc) (x1_20 : Int64) (x4_20 : Int32) (ls : Array Slot), va_P D vwCl (wX ad ck f20 g20 a20) H → va_D (kAd (wX ad ck f0 g0 a0)) (wX ad ck f20 g20 a20) → va_S (kAd (wX ad ck f0 g0 a0)) s.heap H locs → lv_has ls 5 [(0, .ref (ad 0)), (1, .long x1_20), (3, .int x3_20), (4, .int x4_20)] → ∀ r : ((Int64 × Int32 × ST) ⊕ (Int64 × ST)), lpN (fun q20 : (Int64 × Int32 × ST) => B_X11_digest_20 q20.2.2.1 q20.2.2.2.1 q20.2.2.2.2 q20.1 x3_20 q20.2.1) n20 (x1_20, x4_20, f20, g20, a20) = some r → (lpK (fun q6 : (Int64 × Int32 × ST) => B_X11_digest_6 q6.2.2.1 q6.2.2.2.1 q6.2.2.2.2 q6.1 q6.2.1) n6 (fun r => r = out)) r → W p l e (headSpec wsX11_digest ({ frames := 6, cells := 0, slots := 0, locals := 140 })).room s m [.ref (ad 0)].toArray below meth c H locs 0 0 (MQ below (kQ D vwCl (some (.long out.1)) (wX ad ck f0 g0 a0) (wX ad ck out.2.1 out.2.2.1 out.2.2.2)) [.ref (ad 0)].toArray s 0 0 (kAd (wX ad ck f0 g0 a0))) (F0 m 20 ls []) := by
        intro x3_20 n20
        induction n20 with
        | zero => intro f20 g20 a20 H locs x1_20 x4_20 ls hP hD hS hl r hF hp; exact (lp_z hF).elim
        | succ n20 ih20 =>
          intro f20 g20 a20 H locs x1_20 x4_20 ls hP hD hS hl r hF hp
          obtain ⟨rs, hF, hp⟩ := lpN_K (P := (lpK (fun q6 : (Int64 × Int32 × ST) => B_X11_digest_6 q6.2.2.1 q6.2.2.2.1 q6.2.2.2.2 q6.1 q6.2.1) n6 (fun r => r = out))) hF hp
          unfold B_X11_digest_20 at hF
          refine lv_iload hx hb dX11_digest_20 (lv_at hl 3 rfl) ?_
          refine lv_bipush (v := 9) hx hb dX11_digest_22 (by decide) ?_
          refine lv_icmp_ge (tgt := 48) hx hb dX11_digest_24 (by decide) (fun hc5 => ?_) (fun hc5 => ?_)
          · have hF := it_p hc5 hF
            obtain ⟨r, hF1, hr0⟩ := mp_s hF
            clear hF
            subst hr0
            have hF := hF1
            clear hF1
            have hp : (lpK (fun q6 : (Int64 × Int32 × ST) => B_X11_digest_6 q6.2.2.1 q6.2.2.2.1 q6.2.2.2.2 q6.1 q6.2.1) n6 (fun r => r = out)) r := hp
            refine lv_aload_n hx hb dX11_digest_48 rfl (lv_at hl 0 rfl) ?_
            refine va_get (D := D) (ci := 11) (v := .ref (ad 6)) (C := RX11) (T := TX11) (N := 10) hx hb hts hiX11 hown hK hP 0 rfl rfl 4 (by decide) hf40 (fun _ h9 => h9) rfl dX11_digest_49 ?_
            refine lv_aload_n hx hb dX11_digest_52 rfl (lv_at hl 0 rfl) ?_
            refine va_get (D := D) (ci := 11) (v := .ref (ad 2)) (C := RX11) (T := TX11) (N := 10) hx hb hts hiX11 hown hK hP 0 rfl rfl 1 (by decide) hf19 (fun _ h9 => h9) rfl dX11_digest_53 ?_
            refine lv_iload_n hx hb dX11_digest_56 rfl (lv_at hl 2 rfl) ?_
            obtain ⟨r6, he6, hF⟩ := bd_s hF
            refine kS_w (va_runV (As := [.ref (ad 2), .int x3_20]) (rest := []) ⟨hx, hb, hml, hown, hts⟩ (c_X1_gather l hz D ad ck f20 g20 a20 x3_20 r6 he6) (cwV 2 hts gX11_digest_X1_gather rfl rfl rfl ⟨rfl, pX1_gather⟩ ⟨Nat.le_of_ble_eq_true rfl, Nat.le_of_ble_eq_true rfl⟩) (kW.preV (va_recv hK hP (ci := 1) (q0 := 6) rfl rfl) hP (hE.kept hS hnA) hD hnA) rfl rfl hl.1 rfl (lv_room (Nat.le_of_ble_eq_true rfl)) dX11_digest_57 ⟨Nat.le_refl _, Nat.le_refl _⟩) hD hS rfl (fun H locs hP hD hS => ?_)
            refine lv_ldc2 (v := 31) hx hb hown (hts (.constantLong RX11 211 (31)) (by decide +kernel)) dX11_digest_60 ?_
            refine lv_lload_n hx hb dX11_digest_63 rfl (lv_at hl 1 rfl) ?_
            refine lv_lmul hx hb dX11_digest_64 ?_
            refine lv_aload_n hx hb dX11_digest_65 rfl (lv_at hl 0 rfl) ?_
            refine va_get (D := D) (ci := 11) (v := .ref (ad 6)) (C := RX11) (T := TX11) (N := 10) hx hb hts hiX11 hown hK hP 0 rfl rfl 4 (by decide) hf40 (fun _ h9 => h9) rfl dX11_digest_66 ?_
            refine va_get (D := D) (ci := 1) (v := .int (r6.1 17)) (C := RX1) (T := TX1) (N := 4) hx hb hts hiX1 hown hK hP 6 rfl rfl 3 (by decide) hf172 (fun _ h9 => h9) rfl dX11_digest_69 ?_
            refine lv_i2l (v := (r6.1 17).toInt64) hx hb dX11_digest_72 rfl ?_
            refine lv_ladd hx hb dX11_digest_73 ?_
            refine lv_lstore_n (lv' := [(1, .long (((31 : Int64) * x1_20) + ((r6.1 17).toInt64))), (0, .ref (ad 0)), (3, .int x3_20), (4, .int x4_20)]) hx hb dX11_digest_74 rfl hl (by decide) rfl (fun ls hl => ?_)
            refine lv_ldc2 (v := 31) hx hb hown (hts (.constantLong RX11 211 (31)) (by decide +kernel)) dX11_digest_75 ?_
            refine lv_lload_n hx hb dX11_digest_78 rfl (lv_at hl 0 rfl) ?_
            refine lv_lmul hx hb dX11_digest_79 ?_
            refine lv_aload_n hx hb dX11_digest_80 rfl (lv_at hl 1 rfl) ?_
            refine va_get (D := D) (ci := 11) (v := .ref (ad 6)) (C := RX11) (T := TX11) (N := 10) hx hb hts hiX11 hown hK hP 0 rfl rfl 4 (by decide) hf40 (fun _ h9 => h9) rfl dX11_digest_81 ?_
            refine kS_i (va_runV (As := []) (rest := [.long ((31 : Int64) * (((31 : Int64) * x1_20) + ((r6.1 17).toInt64)))]) ⟨hx, hb, hml, hown, hts⟩ (c_X1_least l hz D ad ck r6.1 r6.2.1 r6.2.2) (cwV 0 hts gX11_digest_X1_least rfl rfl rfl ⟨rfl, pX1_least⟩ ⟨Nat.le_of_ble_eq_true rfl, Nat.le_of_ble_eq_true rfl⟩) (kR.preV (va_recv hK hP (ci := 1) (q0 := 6) rfl rfl) hP (hE.kept hS hnA)) rfl rfl hl.1 rfl (lv_room (Nat.le_of_ble_eq_true rfl)) dX11_digest_84 ⟨Nat.le_refl _, Nat.le_refl _⟩) ?_
            refine lv_i2l (v := (F_X1_least r6.1 r6.2.1 r6.2.2).toInt64) hx hb dX11_digest_87 rfl ?_
            refine lv_ladd hx hb dX11_digest_88 ?_
            refine lv_lstore_n (lv' := [(1, .long (((31 : Int64) * (((31 : Int64) * x1_20) + ((r6.1 17).toInt64))) + ((F_X1_least r6.1 r6.2.1 r6.2.2).toInt64))), (0, .ref (ad 0)), (3, .int x3_20), (4, .int x4_20)]) hx hb dX11_digest_89 rfl hl (by decide) rfl (fun ls hl => ?_)
            refine lv_ldc2 (v := 31) hx hb hown (hts (.constantLong RX11 211 (31)) (by decide +kernel)) dX11_digest_90 ?_
            refine lv_lload_n hx hb dX11_digest_93 rfl (lv_at hl 0 rfl) ?_
            refine lv_lmul hx hb dX11_digest_94 ?_
            refine lv_aload_n hx hb dX11_digest_95 rfl (lv_at hl 1 rfl) ?_
            refine va_get (D := D) (ci := 11) (v := .ref (ad 6)) (C := RX11) (T := TX11) (N := 10) hx hb hts hiX11 hown hK hP 0 rfl rfl 4 (by decide) hf40 (fun _ h9 => h9) rfl dX11_digest_96 ?_
            refine lv_aload_n hx hb dX11_digest_99 rfl (lv_at hl 1 rfl) ?_
            refine va_get (D := D) (ci := 11) (v := .ref (ad 2)) (C := RX11) (T := TX11) (N := 10) hx hb hts hiX11 hown hK hP 0 rfl rfl 1 (by decide) hf19 (fun _ h9 => h9) rfl dX11_digest_100 ?_
            obtain ⟨r7, he7, hF⟩ := bd_s hF
            refine kS_i (va_runV (As := [.ref (ad 2)]) (rest := [.long ((31 : Int64) * (((31 : Int64) * (((31 : Int64) * x1_20) + ((r6.1 17).toInt64))) + ((F_X1_least r6.1 r6.2.1 r6.2.2).toInt64)))]) ⟨hx, hb, hml, hown, hts⟩ (c_X1_bestCompany l hz D ad ck r6.1 r6.2.1 r6.2.2 r7 he7) (cwV 1 hts gX11_digest_X1_bestCompany rfl rfl rfl ⟨rfl, pX1_bestCompany⟩ ⟨Nat.le_of_ble_eq_true rfl, Nat.le_of_ble_eq_true rfl⟩) (kR.preV (va_recv hK hP (ci := 1) (q0 := 6) rfl rfl) hP (hE.kept hS hnA)) rfl rfl hl.1 rfl (lv_room (Nat.le_of_ble_eq_true rfl)) dX11_digest_103 ⟨Nat.le_refl _, Nat.le_refl _⟩) ?_
            refine lv_i2l (v := r7.toInt64) hx hb dX11_digest_106 rfl ?_
            refine lv_ladd hx hb dX11_digest_107 ?_
            refine lv_lstore_n (lv' := [(1, .long (((31 : Int64) * (((31 : Int64) * (((31 : Int64) * x1_20) + ((r6.1 17).toInt64))) + ((F_X1_least r6.1 r6.2.1 r6.2.2).toInt64))) + (r7.toInt64))), (0, .ref (ad 0)), (3, .int x3_20), (4, .int x4_20)]) hx hb dX11_digest_108 rfl hl (by decide) rfl (fun ls hl => ?_)
            refine lv_iinc (v := (x3_20 + 1)) (lv' := [(3, .int (x3_20 + 1)), (1, .long (((31 : Int64) * (((31 : Int64) * (((31 : Int64) * x1_20) + ((r6.1 17).toInt64))) + ((F_X1_least r6.1 r6.2.1 r6.2.2).toInt64))) + (r7.toInt64))), (0, .ref (ad 0)), (4, .int x4_20)]) hx hb dX11_digest_109 hl (k := 2) rfl rfl (by decide) rfl (fun ls hl => ?_)
            refine lv_goto (tgt := 6) hx hb dX11_digest_112 (by decide) ?_
            have hF := Option.some.inj hF
            subst hF
            obtain ⟨r, hF, hp⟩ := hp
            exact ih6 r6.1 r6.2.1 r6.2.2 _ _ (((31 : Int64) * (((31 : Int64) * (((31 : Int64) * x1_20) + ((r6.1 17).toInt64))) + ((F_X1_least r6.1 r6.2.1 r6.2.2).toInt64))) + (r7.toInt64)) (x3_20 + 1) ls hP hD hS (lv_sub hl [2, 1, 0] rfl) r hF hp
          · have hF := it_n hc5 hF
            refine lv_ldc2 (v := 31) hx hb hown (hts (.constantLong RX11 211 (31)) (by decide +kernel)) dX11_digest_27 ?_
            refine lv_lload_n hx hb dX11_digest_30 rfl (lv_at hl 1 rfl) ?_
            refine lv_lmul hx hb dX11_digest_31 ?_
            refine lv_aload_n hx hb dX11_digest_32 rfl (lv_at hl 0 rfl) ?_
            refine lv_iload_n hx hb dX11_digest_33 rfl (lv_at hl 2 rfl) ?_
            refine lv_iload hx hb dX11_digest_34 (lv_at hl 3 rfl) ?_
            obtain ⟨r8, he8, hF⟩ := bd_s hF
            refine kS_i (va_runV (As := [.int x3_20, .int x4_20]) (rest := [.long ((31 : Int64) * x1_20)]) ⟨hx, hb, hml, hown, hts⟩ (c_X11_tellAbout l hz D ad ck f20 g20 a20 x3_20 x4_20 r8 he8) (cwV 2 hts gX11_digest_X11_tellAbout rfl rfl rfl ⟨rfl, pX11_tellAbout⟩ ⟨Nat.le_of_ble_eq_true rfl, Nat.le_of_ble_eq_true rfl⟩) (kR.preV (va_recv hK hP (ci := 11) (q0 := 0) rfl rfl) hP (hE.kept hS hnA)) rfl rfl hl.1 rfl (lv_room (Nat.le_of_ble_eq_true rfl)) dX11_digest_36 ⟨Nat.le_refl _, Nat.le_refl _⟩) ?_
            refine lv_i2l (v := r8.toInt64) hx hb dX11_digest_39 rfl ?_
            refine lv_ladd hx hb dX11_digest_40 ?_
            refine lv_lstore_n (lv' := [(1, .long (((31 : Int64) * x1_20) + (r8.toInt64))), (0, .ref (ad 0)), (3, .int x3_20), (4, .int x4_20)]) hx hb dX11_digest_41 rfl hl (by decide) rfl (fun ls hl => ?_)
            refine lv_iinc (v := (x4_20 + 1)) (lv' := [(4, .int (x4_20 + 1)), (1, .long (((31 : Int64) * x1_20) + (r8.toInt64))), (0, .ref (ad 0)), (3, .int x3_20)]) hx hb dX11_digest_42 hl (k := 3) rfl rfl (by decide) rfl (fun ls hl => ?_)
            refine lv_goto (tgt := 20) hx hb dX11_digest_45 (by decide) ?_
            have hF := Option.some.inj hF
            subst hF
            obtain ⟨r, hF, hp⟩ := hp
            exact ih20 f20 g20 a20 _ _ (((31 : Int64) * x1_20) + (r8.toInt64)) (x4_20 + 1) ls hP hD hS (lv_sub hl [2, 1, 3, 0] rfl) r hF hp
      unfold B_X11_digest_6 at hF
      refine lv_iload_n hx hb dX11_digest_6 rfl (lv_at hl 2 rfl) ?_
      refine lv_aload_n hx hb dX11_digest_7 rfl (lv_at hl 0 rfl) ?_
      refine va_get (D := D) (ci := 11) (v := .ref (ad 2)) (C := RX11) (T := TX11) (N := 10) hx hb hts hiX11 hown hK hP 0 rfl rfl 1 (by decide) hf19 (fun _ h9 => h9) rfl dX11_digest_8 ?_
      refine va_get (D := D) (ci := 9) (v := .int (f6 5)) (C := RX9) (T := TX9) (N := 4) hx hb hts hiX9 hown hK hP 2 rfl rfl 3 (by decide) hf74 (fun _ h9 => h9) rfl dX11_digest_11 ?_
      refine lv_icmp_ge (tgt := 115) hx hb dX11_digest_14 (by decide) (fun hc1 => ?_) (fun hc1 => ?_)
      · have hF := it_p hc1 hF
        obtain ⟨r, hF1, hr0⟩ := mp_s hF
        clear hF
        subst hr0
        have hF := hF1
        clear hF1
        have hp : (fun r => r = out) r := hp
        refine lv_iconst (v := 0) hx hb dX11_digest_115 (by decide) ?_
        refine lv_istore_n (lv' := [(3, .int 0), (0, .ref (ad 0)), (1, .long x1_6)]) hx hb dX11_digest_116 rfl hl (by decide) rfl (fun ls hl => ?_)
        exact hN_117 kFu f6 g6 a6 _ _ x1_6 0 ls hP hD hS (lv_sub hl [1, 2, 0] rfl) _ hF hp
      · have hF := it_n hc1 hF
        refine lv_iconst (v := 0) hx hb dX11_digest_17 (by decide) ?_
        refine lv_istore (lv' := [(4, .int 0), (0, .ref (ad 0)), (1, .long x1_6), (3, .int x3_6)]) hx hb dX11_digest_18 hl (by decide) rfl (fun ls hl => ?_)
        exact hN_20 x3_6 kFu f6 g6 a6 _ _ x1_6 0 ls hP hD hS (lv_sub hl [1, 2, 3, 0] rfl) _ hF hp
  have hl := lv_entry ([.ref (ad 0)]) (n := 5) (Nat.le_of_ble_eq_true rfl)
  rw [lg_entry_eq]
  generalize (lg_sl ([.ref (ad 0)]) ++ List.replicate (5 - (lg_sl ([.ref (ad 0)])).length) Slot.unset).toArray = ls at hl ⊢
  have hl : lv_has ls 5 [(0, .ref (ad 0))] := hl
  obtain ⟨r, hF, hp⟩ : ∃ r, F_X11_digest f0 g0 a0 = some r ∧ r = out := ⟨out, hF, rfl⟩
  unfold F_X11_digest at hF
  refine lv_ldc2 (v := 983) hx hb hown (hts (.constantLong RX11 209 (983)) (by decide +kernel)) dX11_digest_0 ?_
  refine lv_lstore_n (lv' := [(1, .long 983), (0, .ref (ad 0))]) hx hb dX11_digest_3 rfl hl (by decide) rfl (fun ls hl => ?_)
  refine lv_iconst (v := 0) hx hb dX11_digest_4 (by decide) ?_
  refine lv_istore_n (lv' := [(3, .int 0), (1, .long 983), (0, .ref (ad 0))]) hx hb dX11_digest_5 rfl hl (by decide) rfl (fun ls hl => ?_)
  exact hN_6 kFu f0 g0 a0 _ _ 983 0 ls hP hD hS (lv_sub hl [2, 1, 0] rfl) _ hF hp
