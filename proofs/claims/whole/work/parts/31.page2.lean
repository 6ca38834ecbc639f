/-! ===== the class, by program (tools/gen.py) ===== -/
def F_X5_fits (f0 : Nat → Int32) (g0 : Nat → Int64) (a0 : Nat → Nat → Int32) (p1 : Int32) : Option Int32 := if p1 < 19 then if (p1 &&& (3 : Int32)) = 0 then (F_X5_kindAt f0 g0 a0 (p1 / 4)).bind fun r3 => if r3 < 0 then some 0 else some 1 else (if (p1 &&& (3 : Int32)) = 3 then if (F_at 21 (a0 13) p1) = 44 then some 1 else some 0 else (if (F_X5_digitAt f0 g0 a0 p1) < 0 then some 0 else if 5 ≤ (F_X5_digitAt f0 g0 a0 p1) then some 0 else some 1)) else some 0
set_option maxHeartbeats 4000000 in
set_option maxRecDepth 100000 in
theorem c_X5_fits (l : Launch) (hz : Nat) (D : va_G) (ad : Nat → Nat) (ck : Nat → ClassId) (f0 : Nat → Int32) (g0 : Nat → Int64) (a0 : Nat → Nat → Int32) (p1 : Int32) (out : Int32) (hF : F_X5_fits f0 g0 a0 p1 = some out) : Met l yX5_fits wsX5_fits ({ frames := 5, cells := 0, slots := 0, locals := 112 }) (kR hz D vwCl (tX ck) (wX ad ck f0 g0 a0) [.ref (ad 1), .int p1]) (kZb out) 0 0 (fun _ => False) := by
  refine Met.ofW (cc := cX5_fits) (maxL := 2) (ret := (some .boolean)) (by decide) rfl ?_
  intro p e s m args below meth c s₁ B hml hv
  obtain ⟨rfl, hP, hE⟩ := hv
  have hx := B.exec
  have hb := B.bytes
  have hr := B.returns
  have hts := atoms_spec (ws := wsX5_fits) B.pre
  have hown : s.vm.findClass RX5 = some m.cls := findClass_of_methodNamed B.named
  have hlocks := B.notSynchronized
  have hK := hE.1
  have hiX5 : ∀ w ∈ u_ws RX5 TX5 2, w ∈ wsX5_fits := by decide +kernel
  have hf9 := hts (.fieldLink RX5 9 "SpeltByFriends$Page" "letters" "[I") (by decide +kernel)
  have hl := lv_entry ([.ref (ad 1), .int p1]) (n := 2) (Nat.le_of_ble_eq_true rfl)
  rw [lg_entry_eq]
  generalize (lg_sl ([.ref (ad 1), .int p1]) ++ List.replicate (2 - (lg_sl ([.ref (ad 1), .int p1])).length) Slot.unset).toArray = ls at hl ⊢
  have hl : lv_has ls 2 [(0, .ref (ad 1)), (1, .int p1)] := hl
  obtain ⟨r, hF, hp⟩ : ∃ r, F_X5_fits f0 g0 a0 p1 = some r ∧ r = out := ⟨out, hF, rfl⟩
  unfold F_X5_fits at hF
  refine lv_iload_n hx hb dX5_fits_0 rfl (lv_at hl 1 rfl) ?_
  refine lv_bipush (v := 19) hx hb dX5_fits_1 (by decide) ?_
  refine lv_icmp_lt (tgt := 8) hx hb dX5_fits_3 (by decide) (fun hc1 => ?_) (fun hc1 => ?_)
  · have hF := it_p hc1 hF
    refine lv_iload_n hx hb dX5_fits_8 rfl (lv_at hl 1 rfl) ?_
    refine lv_iconst (v := 3) hx hb dX5_fits_9 (by decide) ?_
    refine lv_iand hx hb dX5_fits_10 ?_
    by_cases hc2 : (p1 &&& (3 : Int32)) = 0
    · have hF := it_p hc2 hF
      refine lv_lookup (tgt := 36) (off := 25) hx hb dX5_fits_11 (by decide) (by rw [hc2]; decide) (by decide) ?_
      refine lv_aload_n hx hb dX5_fits_36 rfl (lv_at hl 0 rfl) ?_
      refine lv_iload_n hx hb dX5_fits_37 rfl (lv_at hl 1 rfl) ?_
      refine lv_iconst (v := 4) hx hb dX5_fits_38 (by decide) ?_
      refine lv_idiv hx hb dX5_fits_39 (by decide) ?_
      obtain ⟨r3, he3, hF⟩ := bd_s hF
      refine kS_i (va_runV (As := [.int (p1 / 4)]) (rest := []) ⟨hx, hb, hml, hown, hts⟩ (c_X5_kindAt l hz D ad ck f0 g0 a0 (p1 / 4) r3 he3) (cwV 1 hts gX5_fits_X5_kindAt rfl rfl rfl ⟨rfl, pX5_kindAt⟩ ⟨Nat.le_of_ble_eq_true rfl, Nat.le_of_ble_eq_true rfl⟩) (kR.preV (va_recv hK hP (ci := 5) (q0 := 1) rfl rfl) hP hE) rfl rfl hl.1 rfl (lv_room (Nat.le_of_ble_eq_true rfl)) dX5_fits_40 ⟨Nat.le_refl _, Nat.le_refl _⟩) ?_
      refine lv_if_lt (tgt := 50) hx hb dX5_fits_43 (by decide) (fun hc4 => ?_) (fun hc4 => ?_)
      · have hF := it_p hc4 hF
        refine lv_iconst (v := 0) hx hb dX5_fits_50 (by decide) ?_
        have hv := (Option.some.inj hF).trans hp
        exact W.zret hx hb hr rfl (fun t ht hW => ⟨_, rfl, ⟨hv, by rw [← hv]; exact rfl⟩, ht⟩) (fun q hq => by cases hq) dX5_fits_51
      · have hF := it_n hc4 hF
        refine lv_iconst (v := 1) hx hb dX5_fits_46 (by decide) ?_
        refine lv_goto (tgt := 51) hx hb dX5_fits_47 (by decide) ?_
        have hv := (Option.some.inj hF).trans hp
        exact W.zret hx hb hr rfl (fun t ht hW => ⟨_, rfl, ⟨hv, by rw [← hv]; exact rfl⟩, ht⟩) (fun q hq => by cases hq) dX5_fits_51
    have hF := it_n hc2 hF
    by_cases hc5 : (p1 &&& (3 : Int32)) = 3
    · have hF := it_p hc5 hF
      refine lv_lookup (tgt := 52) (off := 41) hx hb dX5_fits_11 (by decide) (by rw [hc5]; decide) (by decide) ?_
      refine lv_aload_n hx hb dX5_fits_52 rfl (lv_at hl 0 rfl) ?_
      refine va_get (D := D) (ci := 5) (v := .ref (ad 13)) (C := RX5) (T := TX5) (N := 2) hx hb hts hiX5 hown hK hP 1 rfl rfl 0 (by decide) hf9 (fun _ h9 => h9) rfl dX5_fits_53 ?_
      refine lv_iload_n hx hb dX5_fits_56 rfl (lv_at hl 1 rfl) ?_
      refine kS_i (va_runSN (As := [.ref (ad 13), .int p1]) (rest := []) ⟨hx, hb, hml, hown, hts⟩ (c_X11_at l hz D (tX ck) (wX ad ck f0 g0 a0) 13 0 rfl rfl (by decide) p1) ⟨va_cnB 2 hts gX5_fits_X11_at_n33 rfl rfl rfl (hE.2.1 _ knX5_33) (hts (.initialized RX11) (by decide +kernel)) pX11_at ⟨Nat.le_of_ble_eq_true rfl, Nat.le_of_ble_eq_true rfl⟩, hts (.static yX11_at) (by decide +kernel), trivial⟩ (kR.preS hP hE) rfl rfl hl.1 rfl (lv_room (Nat.le_of_ble_eq_true rfl)) dX5_fits_57 ⟨Nat.le_refl _, Nat.le_refl _⟩) ?_
      refine lv_bipush (v := 44) hx hb dX5_fits_60 (by decide) ?_
      refine lv_icmp_ne (tgt := 69) hx hb dX5_fits_62 (by decide) (fun hc6 => ?_) (fun hc6 => ?_)
      · have hF := it_n hc6 hF
        refine lv_iconst (v := 0) hx hb dX5_fits_69 (by decide) ?_
        have hv := (Option.some.inj hF).trans hp
        exact W.zret hx hb hr rfl (fun t ht hW => ⟨_, rfl, ⟨hv, by rw [← hv]; exact rfl⟩, ht⟩) (fun q hq => by cases hq) dX5_fits_70
      · have hF := it_p hc6 hF
        refine lv_iconst (v := 1) hx hb dX5_fits_65 (by decide) ?_
        refine lv_goto (tgt := 70) hx hb dX5_fits_66 (by decide) ?_
        have hv := (Option.some.inj hF).trans hp
        exact W.zret hx hb hr rfl (fun t ht hW => ⟨_, rfl, ⟨hv, by rw [← hv]; exact rfl⟩, ht⟩) (fun q hq => by cases hq) dX5_fits_70
    have hF := it_n hc5 hF
    refine lv_lookup (tgt := 71) (off := 60) hx hb dX5_fits_11 (by decide) (by rw [lv_osw hc2 (by decide)]; rw [lv_osw hc5 (by decide)]; rfl) (by decide) ?_
    refine lv_aload_n hx hb dX5_fits_71 rfl (lv_at hl 0 rfl) ?_
    refine lv_iload_n hx hb dX5_fits_72 rfl (lv_at hl 1 rfl) ?_
    refine kS_i (va_runV (As := [.int p1]) (rest := []) ⟨hx, hb, hml, hown, hts⟩ (c_X5_digitAt l hz D ad ck f0 g0 a0 p1) (cwV 1 hts gX5_fits_X5_digitAt rfl rfl rfl ⟨rfl, pX5_digitAt⟩ ⟨Nat.le_of_ble_eq_true rfl, Nat.le_of_ble_eq_true rfl⟩) (kR.preV (va_recv hK hP (ci := 5) (q0 := 1) rfl rfl) hP hE) rfl rfl hl.1 rfl (lv_room (Nat.le_of_ble_eq_true rfl)) dX5_fits_73 ⟨Nat.le_refl _, Nat.le_refl _⟩) ?_
    refine lv_if_lt (tgt := 92) hx hb dX5_fits_76 (by decide) (fun hc7 => ?_) (fun hc7 => ?_)
    · have hF := it_p hc7 hF
      refine lv_iconst (v := 0) hx hb dX5_fits_92 (by decide) ?_
      have hv := (Option.some.inj hF).trans hp
      exact W.zret hx hb hr rfl (fun t ht hW => ⟨_, rfl, ⟨hv, by rw [← hv]; exact rfl⟩, ht⟩) (fun q hq => by cases hq) dX5_fits_93
    · have hF := it_n hc7 hF
      refine lv_aload_n hx hb dX5_fits_79 rfl (lv_at hl 0 rfl) ?_
      refine lv_iload_n hx hb dX5_fits_80 rfl (lv_at hl 1 rfl) ?_
      refine kS_i (va_runV (As := [.int p1]) (rest := []) ⟨hx, hb, hml, hown, hts⟩ (c_X5_digitAt l hz D ad ck f0 g0 a0 p1) (cwV 1 hts gX5_fits_X5_digitAt rfl rfl rfl ⟨rfl, pX5_digitAt⟩ ⟨Nat.le_of_ble_eq_true rfl, Nat.le_of_ble_eq_true rfl⟩) (kR.preV (va_recv hK hP (ci := 5) (q0 := 1) rfl rfl) hP hE) rfl rfl hl.1 rfl (lv_room (Nat.le_of_ble_eq_true rfl)) dX5_fits_81 ⟨Nat.le_refl _, Nat.le_refl _⟩) ?_
      refine lv_iconst (v := 5) hx hb dX5_fits_84 (by decide) ?_
      refine lv_icmp_ge (tgt := 92) hx hb dX5_fits_85 (by decide) (fun hc8 => ?_) (fun hc8 => ?_)
      · have hF := it_p hc8 hF
        refine lv_iconst (v := 0) hx hb dX5_fits_92 (by decide) ?_
        have hv := (Option.some.inj hF).trans hp
        exact W.zret hx hb hr rfl (fun t ht hW => ⟨_, rfl, ⟨hv, by rw [← hv]; exact rfl⟩, ht⟩) (fun q hq => by cases hq) dX5_fits_93
      · have hF := it_n hc8 hF
        refine lv_iconst (v := 1) hx hb dX5_fits_88 (by decide) ?_
        refine lv_goto (tgt := 93) hx hb dX5_fits_89 (by decide) ?_
        have hv := (Option.some.inj hF).trans hp
        exact W.zret hx hb hr rfl (fun t ht hW => ⟨_, rfl, ⟨hv, by rw [← hv]; exact rfl⟩, ht⟩) (fun q hq => by cases hq) dX5_fits_93
  · have hF := it_n hc1 hF
    refine lv_iconst (v := 0) hx hb dX5_fits_6 (by decide) ?_
    have hv := (Option.some.inj hF).trans hp
    exact W.zret hx hb hr rfl (fun t ht hW => ⟨_, rfl, ⟨hv, by rw [← hv]; exact rfl⟩, ht⟩) (fun q hq => by cases hq) dX5_fits_7

def N_X5_firstNobody_50 (f0 : Nat → Int32) (g0 : Nat → Int64) (a0 : Nat → Nat → Int32) (x1_7 : Int32) (x2_50 : Int32) : Option ((Int32) ⊕ Int32) := some (.inl (x2_50 + 1))
def N_X5_firstNobody_34 (f0 : Nat → Int32) (g0 : Nat → Int64) (a0 : Nat → Nat → Int32) (x1_7 : Int32) (x2_34 : Int32) (t0_34 : Int32) : Option ((Int32) ⊕ Int32) := if t0_34 = 0 then N_X5_firstNobody_50 f0 g0 a0 x1_7 x2_34 else if (F_X5_digitAt f0 g0 a0 x2_34) < x1_7 then N_X5_firstNobody_50 f0 g0 a0 x1_7 x2_34 else Option.map Sum.inr (some x2_34)
def N_X5_firstNobody_29 (f0 : Nat → Int32) (g0 : Nat → Int64) (a0 : Nat → Nat → Int32) (x1_7 : Int32) (x2_29 : Int32) : Option ((Int32) ⊕ Int32) := N_X5_firstNobody_34 f0 g0 a0 x1_7 x2_29 1
def B_X5_firstNobody_7 (f0 : Nat → Int32) (g0 : Nat → Int64) (a0 : Nat → Nat → Int32) (x1_7 : Int32) (x2_7 : Int32) : Option ((Int32) ⊕ Int32) := if (f0 4) ≤ x2_7 then Option.map Sum.inr (some (f0 4)) else if (x2_7 &&& (3 : Int32)) = 1 then N_X5_firstNobody_29 f0 g0 a0 x1_7 x2_7 else if (x2_7 &&& (3 : Int32)) = 2 then N_X5_firstNobody_29 f0 g0 a0 x1_7 x2_7 else N_X5_firstNobody_34 f0 g0 a0 x1_7 x2_7 0
def N_X5_firstNobody_7 (f0 : Nat → Int32) (g0 : Nat → Int64) (a0 : Nat → Nat → Int32) (x1_7 : Int32) (x2_7 : Int32) : Option Int32 := lpN (fun q7 : (Int32) => B_X5_firstNobody_7 f0 g0 a0 x1_7 q7) kFu x2_7
def F_X5_firstNobody (f0 : Nat → Int32) (g0 : Nat → Int64) (a0 : Nat → Nat → Int32) : Option Int32 := N_X5_firstNobody_7 f0 g0 a0 (F_X5_people f0 g0 a0) 0
set_option maxHeartbeats 4000000 in
set_option maxRecDepth 100000 in
theorem c_X5_firstNobody (l : Launch) (hz : Nat) (D : va_G) (ad : Nat → Nat) (ck : Nat → ClassId) (f0 : Nat → Int32) (g0 : Nat → Int64) (a0 : Nat → Nat → Int32) (out : Int32) (hF : F_X5_firstNobody f0 g0 a0 = some out) : Met l yX5_firstNobody wsX5_firstNobody ({ frames := 2, cells := 0, slots := 0, locals := 42 }) (kR hz D vwCl (tX ck) (wX ad ck f0 g0 a0) [.ref (ad 1)]) (kZi out) 0 0 (fun _ => False) := by
  refine Met.ofW (cc := cX5_firstNobody) (maxL := 4) (ret := (some .int)) (by decide) rfl ?_
  intro p e s m args below meth c s₁ B hml hv
  obtain ⟨rfl, hP, hE⟩ := hv
  have hx := B.exec
  have hb := B.bytes
  have hr := B.returns
  have hts := atoms_spec (ws := wsX5_firstNobody) B.pre
  have hown : s.vm.findClass RX5 = some m.cls := findClass_of_methodNamed B.named
  have hlocks := B.notSynchronized
  have hK := hE.1
  have hiX5 : ∀ w ∈ u_ws RX5 TX5 2, w ∈ wsX5_firstNobody := by decide +kernel
  have hf15 := hts (.fieldLink RX5 15 "SpeltByFriends$Page" "length" "I") (by decide +kernel)
  have hN_7 : ∀ (x1_7 : Int32) (n7 : Nat) (x2_7 : Int32) (ls : Array Slot), lv_has ls 4 [(0, .ref (ad 1)), (1, .int x1_7), (2, .int x2_7)] → ∀ r : Int32, lpN (fun q7 : (Int32) => B_X5_firstNobody_7 f0 g0 a0 x1_7 q7) n7 x2_7 = some r → (fun r => r = out) r → W p l e (headSpec wsX5_firstNobody ({ frames := 2, cells := 0, slots := 0, locals := 42 })).room s m [.ref (ad 1)].toArray below meth c s.heap [] 0 0 (MQ below (kZi out) [.ref (ad 1)].toArray s 0 0 (fun _ => False)) (F0 m 7 ls []) := by
    intro x1_7 n7
    induction n7 with
    | zero => intro x2_7 ls hl r hF hp; exact (lp_z hF).elim
    | succ n7 ih7 =>
      intro x2_7 ls hl r hF hp
      obtain ⟨rs, hF, hp⟩ := lpN_K (P := (fun r => r = out)) hF hp
      have hN_50 : ∀ (x2_50 : Int32) (ls : Array Slot), lv_has ls 4 [(0, .ref (ad 1)), (1, .int x1_7), (2, .int x2_50)] → ∀ r : ((Int32) ⊕ Int32), N_X5_firstNobody_50 f0 g0 a0 x1_7 x2_50 = some r → (lpK (fun q7 : (Int32) => B_X5_firstNobody_7 f0 g0 a0 x1_7 q7) n7 (fun r => r = out)) r → W p l e (headSpec wsX5_firstNobody ({ frames := 2, cells := 0, slots := 0, locals := 42 })).room s m [.ref (ad 1)].toArray below meth c s.heap [] 0 0 (MQ below (kZi out) [.ref (ad 1)].toArray s 0 0 (fun _ => False)) (F0 m 50 ls []) := by
        intro x2_50 ls hl r hF hp
        unfold N_X5_firstNobody_50 at hF
        refine lv_iinc (v := (x2_50 + 1)) (lv' := [(2, .int (x2_50 + 1)), (0, .ref (ad 1)), (1, .int x1_7)]) hx hb dX5_firstNobody_50 hl (k := 2) rfl rfl (by decide) rfl (fun ls hl => ?_)
        refine lv_goto (tgt := 7) hx hb dX5_firstNobody_53 (by decide) ?_
        have hF := Option.some.inj hF
        subst hF
        obtain ⟨r, hF, hp⟩ := hp
        exact ih7 (x2_50 + 1) ls (lv_sub hl [1, 2, 0] rfl) r hF hp
      have hN_34 : ∀ (x2_34 : Int32) (t0_34 : Int32) (ls : Array Slot), lv_has ls 4 [(0, .ref (ad 1)), (1, .int x1_7), (2, .int x2_34)] → ∀ r : ((Int32) ⊕ Int32), N_X5_firstNobody_34 f0 g0 a0 x1_7 x2_34 t0_34 = some r → (lpK (fun q7 : (Int32) => B_X5_firstNobody_7 f0 g0 a0 x1_7 q7) n7 (fun r => r = out)) r → W p l e (headSpec wsX5_firstNobody ({ frames := 2, cells := 0, slots := 0, locals := 42 })).room s m [.ref (ad 1)].toArray below meth c s.heap [] 0 0 (MQ below (kZi out) [.ref (ad 1)].toArray s 0 0 (fun _ => False)) (F0 m 34 ls [.int t0_34]) := by
        intro x2_34 t0_34 ls hl r hF hp
        unfold N_X5_firstNobody_34 at hF
        refine lv_istore_n (lv' := [(3, .int t0_34), (0, .ref (ad 1)), (1, .int x1_7), (2, .int x2_34)]) hx hb dX5_firstNobody_34 rfl hl (by decide) rfl (fun ls hl => ?_)
        refine lv_iload_n hx hb dX5_firstNobody_35 rfl (lv_at hl 0 rfl) ?_
        refine lv_if_eq (tgt := 50) hx hb dX5_firstNobody_36 (by decide) (fun hc3 => ?_) (fun hc3 => ?_)
        · have hF := it_p hc3 hF
          exact hN_50 x2_34 ls (lv_sub hl [1, 2, 3] rfl) _ hF hp
        · have hF := it_n hc3 hF
          refine lv_aload_n hx hb dX5_firstNobody_39 rfl (lv_at hl 1 rfl) ?_
          refine lv_iload_n hx hb dX5_firstNobody_40 rfl (lv_at hl 3 rfl) ?_
          refine kS_i (va_runV (As := [.int x2_34]) (rest := []) ⟨hx, hb, hml, hown, hts⟩ (c_X5_digitAt l hz D ad ck f0 g0 a0 x2_34) (cwV 1 hts gX5_firstNobody_X5_digitAt rfl rfl rfl ⟨rfl, pX5_digitAt⟩ ⟨Nat.le_of_ble_eq_true rfl, Nat.le_of_ble_eq_true rfl⟩) (kR.preV (va_recv hK hP (ci := 5) (q0 := 1) rfl rfl) hP hE) rfl rfl hl.1 rfl (lv_room (Nat.le_of_ble_eq_true rfl)) dX5_firstNobody_41 ⟨Nat.le_refl _, Nat.le_refl _⟩) ?_
          refine lv_iload_n hx hb dX5_firstNobody_44 rfl (lv_at hl 2 rfl) ?_
          refine lv_icmp_lt (tgt := 50) hx hb dX5_firstNobody_45 (by decide) (fun hc4 => ?_) (fun hc4 => ?_)
          · have hF := it_p hc4 hF
            exact hN_50 x2_34 ls (lv_sub hl [1, 2, 3] rfl) _ hF hp
          · have hF := it_n hc4 hF
            obtain ⟨r, hF1, hr0⟩ := mp_s hF
            clear hF
            subst hr0
            have hF := hF1
            clear hF1
            have hp : (fun r => r = out) r := hp
            refine lv_iload_n hx hb dX5_firstNobody_48 rfl (lv_at hl 3 rfl) ?_
            exact W.iret hx hb hr (fun t ht hW => ⟨_, rfl, (Option.some.inj hF).trans hp, ht⟩) (fun q hq => by cases hq) dX5_firstNobody_49
      have hN_29 : ∀ (x2_29 : Int32) (ls : Array Slot), lv_has ls 4 [(0, .ref (ad 1)), (1, .int x1_7), (2, .int x2_29)] → ∀ r : ((Int32) ⊕ Int32), N_X5_firstNobody_29 f0 g0 a0 x1_7 x2_29 = some r → (lpK (fun q7 : (Int32) => B_X5_firstNobody_7 f0 g0 a0 x1_7 q7) n7 (fun r => r = out)) r → W p l e (headSpec wsX5_firstNobody ({ frames := 2, cells := 0, slots := 0, locals := 42 })).room s m [.ref (ad 1)].toArray below meth c s.heap [] 0 0 (MQ below (kZi out) [.ref (ad 1)].toArray s 0 0 (fun _ => False)) (F0 m 29 ls []) := by
        intro x2_29 ls hl r hF hp
        unfold N_X5_firstNobody_29 at hF
        refine lv_iconst (v := 1) hx hb dX5_firstNobody_29 (by decide) ?_
        refine lv_goto (tgt := 34) hx hb dX5_firstNobody_30 (by decide) ?_
        exact hN_34 x2_29 1 ls (lv_sub hl [0, 1, 2] rfl) _ hF hp
      unfold B_X5_firstNobody_7 at hF
      refine lv_iload_n hx hb dX5_firstNobody_7 rfl (lv_at hl 2 rfl) ?_
      refine lv_aload_n hx hb dX5_firstNobody_8 rfl (lv_at hl 0 rfl) ?_
      refine va_get (D := D) (ci := 5) (v := .int (f0 4)) (C := RX5) (T := TX5) (N := 2) hx hb hts hiX5 hown hK hP 1 rfl rfl 1 (by decide) hf15 (fun _ h9 => h9) rfl dX5_firstNobody_9 ?_
      refine lv_icmp_ge (tgt := 56) hx hb dX5_firstNobody_12 (by decide) (fun hc1 => ?_) (fun hc1 => ?_)
      · have hF := it_p hc1 hF
        obtain ⟨r, hF1, hr0⟩ := mp_s hF
        clear hF
        subst hr0
        have hF := hF1
        clear hF1
        have hp : (fun r => r = out) r := hp
        refine lv_aload_n hx hb dX5_firstNobody_56 rfl (lv_at hl 0 rfl) ?_
        refine va_get (D := D) (ci := 5) (v := .int (f0 4)) (C := RX5) (T := TX5) (N := 2) hx hb hts hiX5 hown hK hP 1 rfl rfl 1 (by decide) hf15 (fun _ h9 => h9) rfl dX5_firstNobody_57 ?_
        exact W.iret hx hb hr (fun t ht hW => ⟨_, rfl, (Option.some.inj hF).trans hp, ht⟩) (fun q hq => by cases hq) dX5_firstNobody_60
      · have hF := it_n hc1 hF
        refine lv_iload_n hx hb dX5_firstNobody_15 rfl (lv_at hl 2 rfl) ?_
        refine lv_iconst (v := 3) hx hb dX5_firstNobody_16 (by decide) ?_
        refine lv_iand hx hb dX5_firstNobody_17 ?_
        refine lv_iconst (v := 1) hx hb dX5_firstNobody_18 (by decide) ?_
        refine lv_icmp_eq (tgt := 29) hx hb dX5_firstNobody_19 (by decide) (fun hc2 => ?_) (fun hc2 => ?_)
        · have hF := it_p hc2 hF
          exact hN_29 x2_7 ls (lv_sub hl [0, 1, 2] rfl) _ hF hp
        · have hF := it_n hc2 hF
          refine lv_iload_n hx hb dX5_firstNobody_22 rfl (lv_at hl 2 rfl) ?_
          refine lv_iconst (v := 3) hx hb dX5_firstNobody_23 (by decide) ?_
          refine lv_iand hx hb dX5_firstNobody_24 ?_
          refine lv_iconst (v := 2) hx hb dX5_firstNobody_25 (by decide) ?_
          refine lv_icmp_ne (tgt := 33) hx hb dX5_firstNobody_26 (by decide) (fun hc5 => ?_) (fun hc5 => ?_)
          · have hF := it_n hc5 hF
            refine lv_iconst (v := 0) hx hb dX5_firstNobody_33 (by decide) ?_
            exact hN_34 x2_7 0 ls (lv_sub hl [0, 1, 2] rfl) _ hF hp
          · have hF := it_p hc5 hF
            exact hN_29 x2_7 ls (lv_sub hl [0, 1, 2] rfl) _ hF hp
  have hl := lv_entry ([.ref (ad 1)]) (n := 4) (Nat.le_of_ble_eq_true rfl)
  rw [lg_entry_eq]
  generalize (lg_sl ([.ref (ad 1)]) ++ List.replicate (4 - (lg_sl ([.ref (ad 1)])).length) Slot.unset).toArray = ls at hl ⊢
  have hl : lv_has ls 4 [(0, .ref (ad 1))] := hl
  obtain ⟨r, hF, hp⟩ : ∃ r, F_X5_firstNobody f0 g0 a0 = some r ∧ r = out := ⟨out, hF, rfl⟩
  unfold F_X5_firstNobody at hF
  refine lv_aload_n hx hb dX5_firstNobody_0 rfl (lv_at hl 0 rfl) ?_
  refine kS_i (va_runV (As := []) (rest := []) ⟨hx, hb, hml, hown, hts⟩ (c_X5_people l hz D ad ck f0 g0 a0) (cwV 0 hts gX5_firstNobody_X5_people rfl rfl rfl ⟨rfl, pX5_people⟩ ⟨Nat.le_of_ble_eq_true rfl, Nat.le_of_ble_eq_true rfl⟩) (kR.preV (va_recv hK hP (ci := 5) (q0 := 1) rfl rfl) hP hE) rfl rfl hl.1 rfl (lv_room (Nat.le_of_ble_eq_true rfl)) dX5_firstNobody_1 ⟨Nat.le_refl _, Nat.le_refl _⟩) ?_
  refine lv_istore_n (lv' := [(1, .int (F_X5_people f0 g0 a0)), (0, .ref (ad 1))]) hx hb dX5_firstNobody_4 rfl hl (by decide) rfl (fun ls hl => ?_)
  refine lv_iconst (v := 0) hx hb dX5_firstNobody_5 (by decide) ?_
  refine lv_istore_n (lv' := [(2, .int 0), (1, .int (F_X5_people f0 g0 a0)), (0, .ref (ad 1))]) hx hb dX5_firstNobody_6 rfl hl (by decide) rfl (fun ls hl => ?_)
  exact hN_7 (F_X5_people f0 g0 a0) kFu 0 ls (lv_sub hl [2, 1, 0] rfl) _ hF hp

def B_X5_firstFault_2 (f0 : Nat → Int32) (g0 : Nat → Int64) (a0 : Nat → Nat → Int32) (x1_2 : Int32) : Option ((Int32) ⊕ Int32) := if (f0 4) ≤ x1_2 then Option.map Sum.inr (if (F_X5_isWhole f0 g0 a0) = 0 then some (f0 4) else (F_X5_firstNobody f0 g0 a0).bind fun r4 => some r4) else (F_X5_fits f0 g0 a0 x1_2).bind fun r5 => if r5 = 0 then Option.map Sum.inr (some x1_2) else some (.inl (x1_2 + 1))
def N_X5_firstFault_2 (f0 : Nat → Int32) (g0 : Nat → Int64) (a0 : Nat → Nat → Int32) (x1_2 : Int32) : Option Int32 := lpN (fun q2 : (Int32) => B_X5_firstFault_2 f0 g0 a0 q2) kFu x1_2
def F_X5_firstFault (f0 : Nat → Int32) (g0 : Nat → Int64) (a0 : Nat → Nat → Int32) : Option Int32 := N_X5_firstFault_2 f0 g0 a0 0
set_option maxHeartbeats 4000000 in
set_option maxRecDepth 100000 in
theorem c_X5_firstFault (l : Launch) (hz : Nat) (D : va_G) (ad : Nat → Nat) (ck : Nat → ClassId) (f0 : Nat → Int32) (g0 : Nat → Int64) (a0 : Nat → Nat → Int32) (out : Int32) (hF : F_X5_firstFault f0 g0 a0 = some out) : Met l yX5_firstFault wsX5_firstFault ({ frames := 6, cells := 0, slots := 0, locals := 133 }) (kR hz D vwCl (tX ck) (wX ad ck f0 g0 a0) [.ref (ad 1)]) (kZi out) 0 0 (fun _ => False) := by
  refine Met.ofW (cc := cX5_firstFault) (maxL := 2) (ret := (some .int)) (by decide) rfl ?_
  intro p e s m args below meth c s₁ B hml hv
  obtain ⟨rfl, hP, hE⟩ := hv
  have hx := B.exec
  have hb := B.bytes
  have hr := B.returns
  have hts := atoms_spec (ws := wsX5_firstFault) B.pre
  have hown : s.vm.findClass RX5 = some m.cls := findClass_of_methodNamed B.named
  have hlocks := B.notSynchronized
  have hK := hE.1
  have hiX5 : ∀ w ∈ u_ws RX5 TX5 2, w ∈ wsX5_firstFault := by decide +kernel
  have hf15 := hts (.fieldLink RX5 15 "SpeltByFriends$Page" "length" "I") (by decide +kernel)
  have hN_2 : ∀ (n2 : Nat) (x1_2 : Int32) (ls : Array Slot), lv_has ls 2 [(0, .ref (ad 1)), (1, .int x1_2)] → ∀ r : Int32, lpN (fun q2 : (Int32) => B_X5_firstFault_2 f0 g0 a0 q2) n2 x1_2 = some r → (fun r => r = out) r → W p l e (headSpec wsX5_firstFault ({ frames := 6, cells := 0, slots := 0, locals := 133 })).room s m [.ref (ad 1)].toArray below meth c s.heap [] 0 0 (MQ below (kZi out) [.ref (ad 1)].toArray s 0 0 (fun _ => False)) (F0 m 2 ls []) := by
    intro n2
    induction n2 with
    | zero => intro x1_2 ls hl r hF hp; exact (lp_z hF).elim
    | succ n2 ih2 =>
      intro x1_2 ls hl r hF hp
      obtain ⟨rs, hF, hp⟩ := lpN_K (P := (fun r => r = out)) hF hp
      unfold B_X5_firstFault_2 at hF
      refine lv_iload_n hx hb dX5_firstFault_2 rfl (lv_at hl 1 rfl) ?_
      refine lv_aload_n hx hb dX5_firstFault_3 rfl (lv_at hl 0 rfl) ?_
      refine va_get (D := D) (ci := 5) (v := .int (f0 4)) (C := RX5) (T := TX5) (N := 2) hx hb hts hiX5 hown hK hP 1 rfl rfl 1 (by decide) hf15 (fun _ h9 => h9) rfl dX5_firstFault_4 ?_
      refine lv_icmp_ge (tgt := 26) hx hb dX5_firstFault_7 (by decide) (fun hc1 => ?_) (fun hc1 => ?_)
      · have hF := it_p hc1 hF
        obtain ⟨r, hF1, hr0⟩ := mp_s hF
        clear hF
        subst hr0
        have hF := hF1
        clear hF1
        have hp : (fun r => r = out) r := hp
        refine lv_aload_n hx hb dX5_firstFault_26 rfl (lv_at hl 0 rfl) ?_
        refine kS_b (va_runV (As := []) (rest := []) ⟨hx, hb, hml, hown, hts⟩ (c_X5_isWhole l hz D ad ck f0 g0 a0) (cwV 0 hts gX5_firstFault_X5_isWhole rfl rfl rfl ⟨rfl, pX5_isWhole⟩ ⟨Nat.le_of_ble_eq_true rfl, Nat.le_of_ble_eq_true rfl⟩) (kR.preV (va_recv hK hP (ci := 5) (q0 := 1) rfl rfl) hP hE) rfl rfl hl.1 rfl (lv_room (Nat.le_of_ble_eq_true rfl)) dX5_firstFault_27 ⟨Nat.le_refl _, Nat.le_refl _⟩) (fun hz2 => ?_)
        refine lv_if_eq (tgt := 40) hx hb dX5_firstFault_30 (by decide) (fun hc3 => ?_) (fun hc3 => ?_)
        · have hF := it_p hc3 hF
          refine lv_aload_n hx hb dX5_firstFault_40 rfl (lv_at hl 0 rfl) ?_
          refine va_get (D := D) (ci := 5) (v := .int (f0 4)) (C := RX5) (T := TX5) (N := 2) hx hb hts hiX5 hown hK hP 1 rfl rfl 1 (by decide) hf15 (fun _ h9 => h9) rfl dX5_firstFault_41 ?_
          exact W.iret hx hb hr (fun t ht hW => ⟨_, rfl, (Option.some.inj hF).trans hp, ht⟩) (fun q hq => by cases hq) dX5_firstFault_44
        · have hF := it_n hc3 hF
          refine lv_aload_n hx hb dX5_firstFault_33 rfl (lv_at hl 0 rfl) ?_
          obtain ⟨r4, he4, hF⟩ := bd_s hF
          refine kS_i (va_runV (As := []) (rest := []) ⟨hx, hb, hml, hown, hts⟩ (c_X5_firstNobody l hz D ad ck f0 g0 a0 r4 he4) (cwV 0 hts gX5_firstFault_X5_firstNobody rfl rfl rfl ⟨rfl, pX5_firstNobody⟩ ⟨Nat.le_of_ble_eq_true rfl, Nat.le_of_ble_eq_true rfl⟩) (kR.preV (va_recv hK hP (ci := 5) (q0 := 1) rfl rfl) hP hE) rfl rfl hl.1 rfl (lv_room (Nat.le_of_ble_eq_true rfl)) dX5_firstFault_34 ⟨Nat.le_refl _, Nat.le_refl _⟩) ?_
          refine lv_goto (tgt := 44) hx hb dX5_firstFault_37 (by decide) ?_
          exact W.iret hx hb hr (fun t ht hW => ⟨_, rfl, (Option.some.inj hF).trans hp, ht⟩) (fun q hq => by cases hq) dX5_firstFault_44
      · have hF := it_n hc1 hF
        refine lv_aload_n hx hb dX5_firstFault_10 rfl (lv_at hl 0 rfl) ?_
        refine lv_iload_n hx hb dX5_firstFault_11 rfl (lv_at hl 1 rfl) ?_
        obtain ⟨r5, he5, hF⟩ := bd_s hF
        refine kS_b (va_runV (As := [.int x1_2]) (rest := []) ⟨hx, hb, hml, hown, hts⟩ (c_X5_fits l hz D ad ck f0 g0 a0 x1_2 r5 he5) (cwV 1 hts gX5_firstFault_X5_fits rfl rfl rfl ⟨rfl, pX5_fits⟩ ⟨Nat.le_of_ble_eq_true rfl, Nat.le_of_ble_eq_true rfl⟩) (kR.preV (va_recv hK hP (ci := 5) (q0 := 1) rfl rfl) hP hE) rfl rfl hl.1 rfl (lv_room (Nat.le_of_ble_eq_true rfl)) dX5_firstFault_12 ⟨Nat.le_refl _, Nat.le_refl _⟩) (fun hz6 => ?_)
        refine lv_if_ne (tgt := 20) hx hb dX5_firstFault_15 (by decide) (fun hc7 => ?_) (fun hc7 => ?_)
        · have hF := it_n hc7 hF
          refine lv_iinc (v := (x1_2 + 1)) (lv' := [(1, .int (x1_2 + 1)), (0, .ref (ad 1))]) hx hb dX5_firstFault_20 hl (k := 1) rfl rfl (by decide) rfl (fun ls hl => ?_)
          refine lv_goto (tgt := 2) hx hb dX5_firstFault_23 (by decide) ?_
          have hF := Option.some.inj hF
          subst hF
          obtain ⟨r, hF, hp⟩ := hp
          exact ih2 (x1_2 + 1) ls (lv_sub hl [1, 0] rfl) r hF hp
        · have hF := it_p hc7 hF
          obtain ⟨r, hF1, hr0⟩ := mp_s hF
          clear hF
          subst hr0
          have hF := hF1
          clear hF1
          have hp : (fun r => r = out) r := hp
          refine lv_iload_n hx hb dX5_firstFault_18 rfl (lv_at hl 1 rfl) ?_
          exact W.iret hx hb hr (fun t ht hW => ⟨_, rfl, (Option.some.inj hF).trans hp, ht⟩) (fun q hq => by cases hq) dX5_firstFault_19
  have hl := lv_entry ([.ref (ad 1)]) (n := 2) (Nat.le_of_ble_eq_true rfl)
  rw [lg_entry_eq]
  generalize (lg_sl ([.ref (ad 1)]) ++ List.replicate (2 - (lg_sl ([.ref (ad 1)])).length) Slot.unset).toArray = ls at hl ⊢
  have hl : lv_has ls 2 [(0, .ref (ad 1))] := hl
  obtain ⟨r, hF, hp⟩ : ∃ r, F_X5_firstFault f0 g0 a0 = some r ∧ r = out := ⟨out, hF, rfl⟩
  unfold F_X5_firstFault at hF
  refine lv_iconst (v := 0) hx hb dX5_firstFault_0 (by decide) ?_
  refine lv_istore_n (lv' := [(1, .int 0), (0, .ref (ad 1))]) hx hb dX5_firstFault_1 rfl hl (by decide) rfl (fun ls hl => ?_)
  exact hN_2 kFu 0 ls (lv_sub hl [1, 0] rfl) _ hF hp

def F_X5_isTown (f0 : Nat → Int32) (g0 : Nat → Int64) (a0 : Nat → Nat → Int32) : Option Int32 := if (F_X5_isWhole f0 g0 a0) = 0 then some 0 else (F_X5_firstFault f0 g0 a0).bind fun r3 => if r3 = (f0 4) then some 1 else some 0
set_option maxHeartbeats 4000000 in
set_option maxRecDepth 100000 in
theorem c_X5_isTown (l : Launch) (hz : Nat) (D : va_G) (ad : Nat → Nat) (ck : Nat → ClassId) (f0 : Nat → Int32) (g0 : Nat → Int64) (a0 : Nat → Nat → Int32) (out : Int32) (hF : F_X5_isTown f0 g0 a0 = some out) : Met l yX5_isTown wsX5_isTown ({ frames := 7, cells := 0, slots := 0, locals := 154 }) (kR hz D vwCl (tX ck) (wX ad ck f0 g0 a0) [.ref (ad 1)]) (kZb out) 0 0 (fun _ => False) := by
  refine Met.ofW (cc := cX5_isTown) (maxL := 1) (ret := (some .boolean)) (by decide) rfl ?_
  intro p e s m args below meth c s₁ B hml hv
  obtain ⟨rfl, hP, hE⟩ := hv
  have hx := B.exec
  have hb := B.bytes
  have hr := B.returns
  have hts := atoms_spec (ws := wsX5_isTown) B.pre
  have hown : s.vm.findClass RX5 = some m.cls := findClass_of_methodNamed B.named
  have hlocks := B.notSynchronized
  have hK := hE.1
  have hiX5 : ∀ w ∈ u_ws RX5 TX5 2, w ∈ wsX5_isTown := by decide +kernel
  have hf15 := hts (.fieldLink RX5 15 "SpeltByFriends$Page" "length" "I") (by decide +kernel)
  have hl := lv_entry ([.ref (ad 1)]) (n := 1) (Nat.le_of_ble_eq_true rfl)
  rw [lg_entry_eq]
  generalize (lg_sl ([.ref (ad 1)]) ++ List.replicate (1 - (lg_sl ([.ref (ad 1)])).length) Slot.unset).toArray = ls at hl ⊢
  have hl : lv_has ls 1 [(0, .ref (ad 1))] := hl
  obtain ⟨r, hF, hp⟩ : ∃ r, F_X5_isTown f0 g0 a0 = some r ∧ r = out := ⟨out, hF, rfl⟩
  unfold F_X5_isTown at hF
  refine lv_aload_n hx hb dX5_isTown_0 rfl (lv_at hl 0 rfl) ?_
  refine kS_b (va_runV (As := []) (rest := []) ⟨hx, hb, hml, hown, hts⟩ (c_X5_isWhole l hz D ad ck f0 g0 a0) (cwV 0 hts gX5_isTown_X5_isWhole rfl rfl rfl ⟨rfl, pX5_isWhole⟩ ⟨Nat.le_of_ble_eq_true rfl, Nat.le_of_ble_eq_true rfl⟩) (kR.preV (va_recv hK hP (ci := 5) (q0 := 1) rfl rfl) hP hE) rfl rfl hl.1 rfl (lv_room (Nat.le_of_ble_eq_true rfl)) dX5_isTown_1 ⟨Nat.le_refl _, Nat.le_refl _⟩) (fun hz1 => ?_)
  refine lv_if_eq (tgt := 22) hx hb dX5_isTown_4 (by decide) (fun hc2 => ?_) (fun hc2 => ?_)
  · have hF := it_p hc2 hF
    refine lv_iconst (v := 0) hx hb dX5_isTown_22 (by decide) ?_
    have hv := (Option.some.inj hF).trans hp
    exact W.zret hx hb hr rfl (fun t ht hW => ⟨_, rfl, ⟨hv, by rw [← hv]; exact rfl⟩, ht⟩) (fun q hq => by cases hq) dX5_isTown_23
  · have hF := it_n hc2 hF
    refine lv_aload_n hx hb dX5_isTown_7 rfl (lv_at hl 0 rfl) ?_
    obtain ⟨r3, he3, hF⟩ := bd_s hF
    refine kS_i (va_runV (As := []) (rest := []) ⟨hx, hb, hml, hown, hts⟩ (c_X5_firstFault l hz D ad ck f0 g0 a0 r3 he3) (cwV 0 hts gX5_isTown_X5_firstFault rfl rfl rfl ⟨rfl, pX5_firstFault⟩ ⟨Nat.le_of_ble_eq_true rfl, Nat.le_of_ble_eq_true rfl⟩) (kR.preV (va_recv hK hP (ci := 5) (q0 := 1) rfl rfl) hP hE) rfl rfl hl.1 rfl (lv_room (Nat.le_of_ble_eq_true rfl)) dX5_isTown_8 ⟨Nat.le_refl _, Nat.le_refl _⟩) ?_
    refine lv_aload_n hx hb dX5_isTown_11 rfl (lv_at hl 0 rfl) ?_
    refine va_get (D := D) (ci := 5) (v := .int (f0 4)) (C := RX5) (T := TX5) (N := 2) hx hb hts hiX5 hown hK hP 1 rfl rfl 1 (by decide) hf15 (fun _ h9 => h9) rfl dX5_isTown_12 ?_
    refine lv_icmp_ne (tgt := 22) hx hb dX5_isTown_15 (by decide) (fun hc4 => ?_) (fun hc4 => ?_)
    · have hF := it_n hc4 hF
      refine lv_iconst (v := 0) hx hb dX5_isTown_22 (by decide) ?_
      have hv := (Option.some.inj hF).trans hp
      exact W.zret hx hb hr rfl (fun t ht hW => ⟨_, rfl, ⟨hv, by rw [← hv]; exact rfl⟩, ht⟩) (fun q hq => by cases hq) dX5_isTown_23
    · have hF := it_p hc4 hF
      refine lv_iconst (v := 1) hx hb dX5_isTown_18 (by decide) ?_
      refine lv_goto (tgt := 23) hx hb dX5_isTown_19 (by decide) ?_
      have hv := (Option.some.inj hF).trans hp
      exact W.zret hx hb hr rfl (fun t ht hW => ⟨_, rfl, ⟨hv, by rw [← hv]; exact rfl⟩, ht⟩) (fun q hq => by cases hq) dX5_isTown_23

def N_X9_settle_72 (f72 : Nat → Int32) (g72 : Nat → Int64) (a72 : Nat → Nat → Int32) (x2_72 : Int32) (t1_72 : Int32) : Option ((Int32 × ST) ⊕ ST) := gd (inB t1_72 5) (some (.inl ((x2_72 + 1), f72, g72, (us (us (ua a72 31 t1_72.toNatClampNeg (-1)) 14 (F_put 5 ((ua a72 31 t1_72.toNatClampNeg (-1)) 14) x2_72 (F_X5_digitAt f72 g72 (ua a72 31 t1_72.toNatClampNeg (-1)) (((4 : Int32) * x2_72) + (1 : Int32))))) 15 (F_put 5 ((us (ua a72 31 t1_72.toNatClampNeg (-1)) 14 (F_put 5 ((ua a72 31 t1_72.toNatClampNeg (-1)) 14) x2_72 (F_X5_digitAt f72 g72 (ua a72 31 t1_72.toNatClampNeg (-1)) (((4 : Int32) * x2_72) + (1 : Int32))))) 15) x2_72 (F_X5_digitAt f72 g72 (us (ua a72 31 t1_72.toNatClampNeg (-1)) 14 (F_put 5 ((ua a72 31 t1_72.toNatClampNeg (-1)) 14) x2_72 (F_X5_digitAt f72 g72 (ua a72 31 t1_72.toNatClampNeg (-1)) (((4 : Int32) * x2_72) + (1 : Int32))))) (((4 : Int32) * x2_72) + (2 : Int32))))))))
def N_X9_settle_71 (f71 : Nat → Int32) (g71 : Nat → Int64) (a71 : Nat → Nat → Int32) (x2_71 : Int32) (t0_71 : Int32) : Option ((Int32 × ST) ⊕ ST) := N_X9_settle_72 f71 g71 a71 x2_71 t0_71
def N_X9_settle_72v1 (f72v1 : Nat → Int32) (g72v1 : Nat → Int64) (a72v1 : Nat → Nat → Int32) (x2_72v1 : Int32) (t1_72v1 : Int32) : Option ((Int32 × ST) ⊕ ST) := gd (inB t1_72v1 5) (some (.inl ((x2_72v1 + 1), f72v1, g72v1, (us (us (ua a72v1 31 t1_72v1.toNatClampNeg 0) 14 (F_put 5 ((ua a72v1 31 t1_72v1.toNatClampNeg 0) 14) x2_72v1 (F_X5_digitAt f72v1 g72v1 (ua a72v1 31 t1_72v1.toNatClampNeg 0) (((4 : Int32) * x2_72v1) + (1 : Int32))))) 15 (F_put 5 ((us (ua a72v1 31 t1_72v1.toNatClampNeg 0) 14 (F_put 5 ((ua a72v1 31 t1_72v1.toNatClampNeg 0) 14) x2_72v1 (F_X5_digitAt f72v1 g72v1 (ua a72v1 31 t1_72v1.toNatClampNeg 0) (((4 : Int32) * x2_72v1) + (1 : Int32))))) 15) x2_72v1 (F_X5_digitAt f72v1 g72v1 (us (ua a72v1 31 t1_72v1.toNatClampNeg 0) 14 (F_put 5 ((ua a72v1 31 t1_72v1.toNatClampNeg 0) 14) x2_72v1 (F_X5_digitAt f72v1 g72v1 (ua a72v1 31 t1_72v1.toNatClampNeg 0) (((4 : Int32) * x2_72v1) + (1 : Int32))))) (((4 : Int32) * x2_72v1) + (2 : Int32))))))))
def N_X9_settle_72v2 (f72v2 : Nat → Int32) (g72v2 : Nat → Int64) (a72v2 : Nat → Nat → Int32) (x2_72v2 : Int32) (t1_72v2 : Int32) : Option ((Int32 × ST) ⊕ ST) := gd (inB t1_72v2 5) (some (.inl ((x2_72v2 + 1), f72v2, g72v2, (us (us (ua a72v2 31 t1_72v2.toNatClampNeg 1) 14 (F_put 5 ((ua a72v2 31 t1_72v2.toNatClampNeg 1) 14) x2_72v2 (F_X5_digitAt f72v2 g72v2 (ua a72v2 31 t1_72v2.toNatClampNeg 1) (((4 : Int32) * x2_72v2) + (1 : Int32))))) 15 (F_put 5 ((us (ua a72v2 31 t1_72v2.toNatClampNeg 1) 14 (F_put 5 ((ua a72v2 31 t1_72v2.toNatClampNeg 1) 14) x2_72v2 (F_X5_digitAt f72v2 g72v2 (ua a72v2 31 t1_72v2.toNatClampNeg 1) (((4 : Int32) * x2_72v2) + (1 : Int32))))) 15) x2_72v2 (F_X5_digitAt f72v2 g72v2 (us (ua a72v2 31 t1_72v2.toNatClampNeg 1) 14 (F_put 5 ((ua a72v2 31 t1_72v2.toNatClampNeg 1) 14) x2_72v2 (F_X5_digitAt f72v2 g72v2 (ua a72v2 31 t1_72v2.toNatClampNeg 1) (((4 : Int32) * x2_72v2) + (1 : Int32))))) (((4 : Int32) * x2_72v2) + (2 : Int32))))))))
def N_X9_settle_72v3 (f72v3 : Nat → Int32) (g72v3 : Nat → Int64) (a72v3 : Nat → Nat → Int32) (x2_72v3 : Int32) (t1_72v3 : Int32) : Option ((Int32 × ST) ⊕ ST) := gd (inB t1_72v3 5) (some (.inl ((x2_72v3 + 1), f72v3, g72v3, (us (us (ua a72v3 31 t1_72v3.toNatClampNeg 2) 14 (F_put 5 ((ua a72v3 31 t1_72v3.toNatClampNeg 2) 14) x2_72v3 (F_X5_digitAt f72v3 g72v3 (ua a72v3 31 t1_72v3.toNatClampNeg 2) (((4 : Int32) * x2_72v3) + (1 : Int32))))) 15 (F_put 5 ((us (ua a72v3 31 t1_72v3.toNatClampNeg 2) 14 (F_put 5 ((ua a72v3 31 t1_72v3.toNatClampNeg 2) 14) x2_72v3 (F_X5_digitAt f72v3 g72v3 (ua a72v3 31 t1_72v3.toNatClampNeg 2) (((4 : Int32) * x2_72v3) + (1 : Int32))))) 15) x2_72v3 (F_X5_digitAt f72v3 g72v3 (us (ua a72v3 31 t1_72v3.toNatClampNeg 2) 14 (F_put 5 ((ua a72v3 31 t1_72v3.toNatClampNeg 2) 14) x2_72v3 (F_X5_digitAt f72v3 g72v3 (ua a72v3 31 t1_72v3.toNatClampNeg 2) (((4 : Int32) * x2_72v3) + (1 : Int32))))) (((4 : Int32) * x2_72v3) + (2 : Int32))))))))
def N_X9_settle_72v4 (f72v4 : Nat → Int32) (g72v4 : Nat → Int64) (a72v4 : Nat → Nat → Int32) (x2_72v4 : Int32) (t1_72v4 : Int32) : Option ((Int32 × ST) ⊕ ST) := gd (inB t1_72v4 5) (some (.inl ((x2_72v4 + 1), f72v4, g72v4, (us (us (ua a72v4 31 t1_72v4.toNatClampNeg 3) 14 (F_put 5 ((ua a72v4 31 t1_72v4.toNatClampNeg 3) 14) x2_72v4 (F_X5_digitAt f72v4 g72v4 (ua a72v4 31 t1_72v4.toNatClampNeg 3) (((4 : Int32) * x2_72v4) + (1 : Int32))))) 15 (F_put 5 ((us (ua a72v4 31 t1_72v4.toNatClampNeg 3) 14 (F_put 5 ((ua a72v4 31 t1_72v4.toNatClampNeg 3) 14) x2_72v4 (F_X5_digitAt f72v4 g72v4 (ua a72v4 31 t1_72v4.toNatClampNeg 3) (((4 : Int32) * x2_72v4) + (1 : Int32))))) 15) x2_72v4 (F_X5_digitAt f72v4 g72v4 (us (ua a72v4 31 t1_72v4.toNatClampNeg 3) 14 (F_put 5 ((ua a72v4 31 t1_72v4.toNatClampNeg 3) 14) x2_72v4 (F_X5_digitAt f72v4 g72v4 (ua a72v4 31 t1_72v4.toNatClampNeg 3) (((4 : Int32) * x2_72v4) + (1 : Int32))))) (((4 : Int32) * x2_72v4) + (2 : Int32))))))))
def N_X9_settle_72v5 (f72v5 : Nat → Int32) (g72v5 : Nat → Int64) (a72v5 : Nat → Nat → Int32) (x2_72v5 : Int32) (t1_72v5 : Int32) : Option ((Int32 × ST) ⊕ ST) := gd (inB t1_72v5 5) (some (.inl ((x2_72v5 + 1), f72v5, g72v5, (us (us (ua a72v5 31 t1_72v5.toNatClampNeg 4) 14 (F_put 5 ((ua a72v5 31 t1_72v5.toNatClampNeg 4) 14) x2_72v5 (F_X5_digitAt f72v5 g72v5 (ua a72v5 31 t1_72v5.toNatClampNeg 4) (((4 : Int32) * x2_72v5) + (1 : Int32))))) 15 (F_put 5 ((us (ua a72v5 31 t1_72v5.toNatClampNeg 4) 14 (F_put 5 ((ua a72v5 31 t1_72v5.toNatClampNeg 4) 14) x2_72v5 (F_X5_digitAt f72v5 g72v5 (ua a72v5 31 t1_72v5.toNatClampNeg 4) (((4 : Int32) * x2_72v5) + (1 : Int32))))) 15) x2_72v5 (F_X5_digitAt f72v5 g72v5 (us (ua a72v5 31 t1_72v5.toNatClampNeg 4) 14 (F_put 5 ((ua a72v5 31 t1_72v5.toNatClampNeg 4) 14) x2_72v5 (F_X5_digitAt f72v5 g72v5 (ua a72v5 31 t1_72v5.toNatClampNeg 4) (((4 : Int32) * x2_72v5) + (1 : Int32))))) (((4 : Int32) * x2_72v5) + (2 : Int32))))))))
def B_X9_settle_21 (f21 : Nat → Int32) (g21 : Nat → Int64) (a21 : Nat → Nat → Int32) (x2_21 : Int32) : Option ((Int32 × ST) ⊕ ST) := if (f21 5) ≤ x2_21 then Option.map Sum.inr (some (f21, g21, a21)) else if 5 ≤ x2_21 then Option.map Sum.inr (some (f21, g21, a21)) else (F_X5_kindAt f21 g21 a21 x2_21).bind fun r4 => if r4 < 0 then N_X9_settle_71 f21 g21 a21 x2_21 x2_21 else if 5 ≤ r4 then N_X9_settle_71 f21 g21 a21 x2_21 x2_21 else gd (inB r4 5) (if r4 = 0 then N_X9_settle_72v1 f21 g21 a21 x2_21 x2_21 else (if r4 = 1 then N_X9_settle_72v2 f21 g21 a21 x2_21 x2_21 else (if r4 = 2 then N_X9_settle_72v3 f21 g21 a21 x2_21 x2_21 else (if r4 = 3 then N_X9_settle_72v4 f21 g21 a21 x2_21 x2_21 else (if r4 = 4 then N_X9_settle_72v5 f21 g21 a21 x2_21 x2_21 else (none))))))
def N_X9_settle_21 (f21 : Nat → Int32) (g21 : Nat → Int64) (a21 : Nat → Nat → Int32) (x2_21 : Int32) : Option ST := lpN (fun q21 : (Int32 × ST) => B_X9_settle_21 q21.2.1 q21.2.2.1 q21.2.2.2 q21.1) kFu (x2_21, f21, g21, a21)
def F_X9_settle (f0 : Nat → Int32) (g0 : Nat → Int64) (a0 : Nat → Nat → Int32) : Option ST := (F_X3_clear f0 g0 a0).bind fun r1 => N_X9_settle_21 (upd r1.1 5 (if (5 : Int32) < (F_X5_people r1.1 r1.2.1 r1.2.2) then (5 : Int32) else (F_X5_people r1.1 r1.2.1 r1.2.2))) r1.2.1 r1.2.2 0
set_option maxHeartbeats 4000000 in
set_option maxRecDepth 100000 in
theorem c_X9_settle (l : Launch) (hz : Nat) (D : va_G) (ad : Nat → Nat) (ck : Nat → ClassId) (f0 : Nat → Int32) (g0 : Nat → Int64) (a0 : Nat → Nat → Int32) (out : ST) (hF : F_X9_settle f0 g0 a0 = some out) : Met l yX9_settle wsX9_settle ({ frames := 5, cells := 0, slots := 0, locals := 112 }) (kW hz D vwCl (tX ck) (wX ad ck f0 g0 a0) [.ref (ad 2), .ref (ad 1)]) (kQ D vwCl none (wX ad ck f0 g0 a0) (wX ad ck out.1 out.2.1 out.2.2)) 0 0 (kAd (wX ad ck f0 g0 a0)) := by
  refine Met.ofW (cc := cX9_settle) (maxL := 4) (ret := none) (by decide) rfl ?_
  intro p e s m args below meth c s₁ B hml hv
  obtain ⟨rfl, hP, hE, hD0⟩ := hv
  have hx := B.exec
  have hb := B.bytes
  have hr := B.returns
  have hts := atoms_spec (ws := wsX9_settle) B.pre
  have hown : s.vm.findClass RX9 = some m.cls := findClass_of_methodNamed B.named
  have hlocks := B.notSynchronized
  have hK := hE.1
  have hnA := kAd_up hD0
  have hD := kD_self hD0
  have hS : va_S (kAd (wX ad ck f0 g0 a0)) s.heap s.heap [] := va_S.rf
  have hiX3 : ∀ w ∈ u_ws RX3 TX3 10, w ∈ wsX9_settle := by decide +kernel
  have hiX9 : ∀ w ∈ u_ws RX9 TX9 4, w ∈ wsX9_settle := by decide +kernel
  have hf12 := hts (.fieldLink RX9 12 "SpeltByFriends$Town" "ledger" "LSpeltByFriends$Ledger;") (by decide +kernel)
  have hf35 := hts (.fieldLink RX9 35 "SpeltByFriends$Town" "kinds" "[LSpeltByFriends$Person;") (by decide +kernel)
  have hf39 := hts (.fieldLink RX9 39 "SpeltByFriends$Town" "people" "[LSpeltByFriends$Person;") (by decide +kernel)
  have hf56 := hts (.fieldLink RX9 56 "SpeltByFriends$Town" "size" "I") (by decide +kernel)
  have hf64 := hts (.fieldLink RX9 64 "SpeltByFriends$Ledger" "firstHolder" "[I") (by decide +kernel)
  have hf75 := hts (.fieldLink RX9 75 "SpeltByFriends$Ledger" "lastHolder" "[I") (by decide +kernel)
  have hN_21 : ∀ (n21 : Nat) (f21 : Nat → Int32) (g21 : Nat → Int64) (a21 : Nat → Nat → Int32) (H : Heap) (locs : List Loc) (x2_21 : Int32) (ls : Array Slot), va_P D vwCl (wX ad ck f21 g21 a21) H → va_D (kAd (wX ad ck f0 g0 a0)) (wX ad ck f21 g21 a21) → va_S (kAd (wX ad ck f0 g0 a0)) s.heap H locs → lv_has ls 4 [(0, .ref (ad 2)), (1, .ref (ad 1)), (2, .int x2_21)] → ∀ r : ST, lpN (fun q21 : (Int32 × ST) => B_X9_settle_21 q21.2.1 q21.2.2.1 q21.2.2.2 q21.1) n21 (x2_21, f21, g21, a21) = some r → (fun r => r = out) r → W p l e (headSpec wsX9_settle ({ frames := 5, cells := 0, slots := 0, locals := 112 })).room s m [.ref (ad 2), .ref (ad 1)].toArray below meth c H locs 0 0 (MQ below (kQ D vwCl none (wX ad ck f0 g0 a0) (wX ad ck out.1 out.2.1 out.2.2)) [.ref (ad 2), .ref (ad 1)].toArray s 0 0 (kAd (wX ad ck f0 g0 a0))) (F0 m 21 ls []) := by
    intro n21
    induction n21 with
    | zero => intro f21 g21 a21 H locs x2_21 ls hP hD hS hl r hF hp; exact (lp_z hF).elim
    | succ n21 ih21 =>
      intro f21 g21 a21 H locs x2_21 ls hP hD hS hl r hF hp
      obtain ⟨rs, hF, hp⟩ := lpN_K (P := (fun r => r = out)) hF hp
      have hN_72 : ∀ (f72 : Nat → Int32) (g72 : Nat → Int64) (a72 : Nat → Nat → Int32) (H : Heap) (locs : List Loc) (x2_72 : Int32) (t1_72 : Int32) (ls : Array Slot), va_P D vwCl (wX ad ck f72 g72 a72) H → va_D (kAd (wX ad ck f0 g0 a0)) (wX ad ck f72 g72 a72) → va_S (kAd (wX ad ck f0 g0 a0)) s.heap H locs → lv_has ls 4 [(0, .ref (ad 2)), (1, .ref (ad 1)), (2, .int x2_72)] → ∀ r : ((Int32 × ST) ⊕ ST), N_X9_settle_72 f72 g72 a72 x2_72 t1_72 = some r → (lpK (fun q21 : (Int32 × ST) => B_X9_settle_21 q21.2.1 q21.2.2.1 q21.2.2.2 q21.1) n21 (fun r => r = out)) r → W p l e (headSpec wsX9_settle ({ frames := 5, cells := 0, slots := 0, locals := 112 })).room s m [.ref (ad 2), .ref (ad 1)].toArray below meth c H locs 0 0 (MQ below (kQ D vwCl none (wX ad ck f0 g0 a0) (wX ad ck out.1 out.2.1 out.2.2)) [.ref (ad 2), .ref (ad 1)].toArray s 0 0 (kAd (wX ad ck f0 g0 a0))) (F0 m 72 ls [.null, .int t1_72, .ref (ad 31)]) := by
        intro f72 g72 a72 H locs x2_72 t1_72 ls hP hD hS hl r hF hp
        unfold N_X9_settle_72 at hF
        obtain ⟨hg6, hF⟩ := gd_s hF
        refine va_astqN hx hb hK hP hD hS 31 18 rfl rfl (inB_in hg6) dX9_settle_72 (fun H locs hP hD hS => ?_)
        have hP := kPe (ep_n ad ck f72 g72 a72 t1_72.toNatClampNeg) hP
        have hD := kDe (ep_n ad ck f72 g72 a72 t1_72.toNatClampNeg) hD
        refine lv_aload_n hx hb dX9_settle_73 rfl (lv_at hl 0 rfl) ?_
        refine va_get (D := D) (ci := 9) (v := .ref (ad 3)) (C := RX9) (T := TX9) (N := 4) hx hb hts hiX9 hown hK hP 2 rfl rfl 0 (by decide) hf12 (fun _ h9 => h9) rfl dX9_settle_74 ?_
        refine va_get (D := D) (ci := 3) (v := .ref (ad 14)) (C := RX3) (T := TX3) (N := 10) hx hb hts hiX3 hown hK hP 3 rfl rfl 0 (by decide) hf64 (fun _ h9 => h9) rfl dX9_settle_77 ?_
        refine lv_iload_n hx hb dX9_settle_80 rfl (lv_at hl 2 rfl) ?_
        refine lv_aload_n hx hb dX9_settle_81 rfl (lv_at hl 1 rfl) ?_
        refine lv_iconst (v := 4) hx hb dX9_settle_82 (by decide) ?_
        refine lv_iload_n hx hb dX9_settle_83 rfl (lv_at hl 2 rfl) ?_
        refine lv_imul hx hb dX9_settle_84 ?_
        refine lv_iconst (v := 1) hx hb dX9_settle_85 (by decide) ?_
        refine lv_iadd hx hb dX9_settle_86 ?_
        refine kS_i (va_runV (As := [.int (((4 : Int32) * x2_72) + (1 : Int32))]) (rest := [.int x2_72, .ref (ad 14)]) ⟨hx, hb, hml, hown, hts⟩ (c_X5_digitAt l hz D ad ck f72 g72 (ua a72 31 t1_72.toNatClampNeg (-1)) (((4 : Int32) * x2_72) + (1 : Int32))) (cwV 1 hts gX9_settle_X5_digitAt rfl rfl rfl ⟨rfl, pX5_digitAt⟩ ⟨Nat.le_of_ble_eq_true rfl, Nat.le_of_ble_eq_true rfl⟩) (kR.preV (va_recv hK hP (ci := 5) (q0 := 1) rfl rfl) hP (hE.kept hS hnA)) rfl rfl hl.1 rfl (lv_room (Nat.le_of_ble_eq_true rfl)) dX9_settle_87 ⟨Nat.le_refl _, Nat.le_refl _⟩) ?_
        refine kS_w (va_runSN (As := [.ref (ad 14), .int x2_72, .int (F_X5_digitAt f72 g72 (ua a72 31 t1_72.toNatClampNeg (-1)) (((4 : Int32) * x2_72) + (1 : Int32)))]) (rest := []) ⟨hx, hb, hml, hown, hts⟩ (c_X11_put l hz D (tX ck) (wX ad ck f72 g72 (ua a72 31 t1_72.toNatClampNeg (-1))) 14 1 rfl rfl (by decide) x2_72 (F_X5_digitAt f72 g72 (ua a72 31 t1_72.toNatClampNeg (-1)) (((4 : Int32) * x2_72) + (1 : Int32)))) ⟨va_cnB 3 hts gX9_settle_X11_put_n71 rfl rfl rfl (hE.2.1 _ knX9_71) (hts (.initialized RX11) (by decide +kernel)) pX11_put ⟨Nat.le_of_ble_eq_true rfl, Nat.le_of_ble_eq_true rfl⟩, hts (.static yX11_put) (by decide +kernel), trivial⟩ (kW.preS hP (hE.kept hS hnA) hD hnA) rfl rfl hl.1 rfl (lv_room (Nat.le_of_ble_eq_true rfl)) dX9_settle_90 ⟨Nat.le_refl _, Nat.le_refl _⟩) hD hS (kSet_fst rfl) (fun H locs hP hD hS => ?_)
        have hP := kPe (es_wX14 ad ck f72 g72 (ua a72 31 t1_72.toNatClampNeg (-1)) (F_put 5 ((ua a72 31 t1_72.toNatClampNeg (-1)) 14) x2_72 (F_X5_digitAt f72 g72 (ua a72 31 t1_72.toNatClampNeg (-1)) (((4 : Int32) * x2_72) + (1 : Int32))))) hP
        have hD := kDe (es_wX14 ad ck f72 g72 (ua a72 31 t1_72.toNatClampNeg (-1)) (F_put 5 ((ua a72 31 t1_72.toNatClampNeg (-1)) 14) x2_72 (F_X5_digitAt f72 g72 (ua a72 31 t1_72.toNatClampNeg (-1)) (((4 : Int32) * x2_72) + (1 : Int32))))) hD
        refine lv_aload_n hx hb dX9_settle_93 rfl (lv_at hl 0 rfl) ?_
        refine va_get (D := D) (ci := 9) (v := .ref (ad 3)) (C := RX9) (T := TX9) (N := 4) hx hb hts hiX9 hown hK hP 2 rfl rfl 0 (by decide) hf12 (fun _ h9 => h9) rfl dX9_settle_94 ?_
        refine va_get (D := D) (ci := 3) (v := .ref (ad 15)) (C := RX3) (T := TX3) (N := 10) hx hb hts hiX3 hown hK hP 3 rfl rfl 1 (by decide) hf75 (fun _ h9 => h9) rfl dX9_settle_97 ?_
        refine lv_iload_n hx hb dX9_settle_100 rfl (lv_at hl 2 rfl) ?_
        refine lv_aload_n hx hb dX9_settle_101 rfl (lv_at hl 1 rfl) ?_
        refine lv_iconst (v := 4) hx hb dX9_settle_102 (by decide) ?_
        refine lv_iload_n hx hb dX9_settle_103 rfl (lv_at hl 2 rfl) ?_
        refine lv_imul hx hb dX9_settle_104 ?_
        refine lv_iconst (v := 2) hx hb dX9_settle_105 (by decide) ?_
        refine lv_iadd hx hb dX9_settle_106 ?_
        refine kS_i (va_runV (As := [.int (((4 : Int32) * x2_72) + (2 : Int32))]) (rest := [.int x2_72, .ref (ad 15)]) ⟨hx, hb, hml, hown, hts⟩ (c_X5_digitAt l hz D ad ck f72 g72 (us (ua a72 31 t1_72.toNatClampNeg (-1)) 14 (F_put 5 ((ua a72 31 t1_72.toNatClampNeg (-1)) 14) x2_72 (F_X5_digitAt f72 g72 (ua a72 31 t1_72.toNatClampNeg (-1)) (((4 : Int32) * x2_72) + (1 : Int32))))) (((4 : Int32) * x2_72) + (2 : Int32))) (cwV 1 hts gX9_settle_X5_digitAt rfl rfl rfl ⟨rfl, pX5_digitAt⟩ ⟨Nat.le_of_ble_eq_true rfl, Nat.le_of_ble_eq_true rfl⟩) (kR.preV (va_recv hK hP (ci := 5) (q0 := 1) rfl rfl) hP (hE.kept hS hnA)) rfl rfl hl.1 rfl (lv_room (Nat.le_of_ble_eq_true rfl)) dX9_settle_107 ⟨Nat.le_refl _, Nat.le_refl _⟩) ?_
        refine kS_w (va_runSN (As := [.ref (ad 15), .int x2_72, .int (F_X5_digitAt f72 g72 (us (ua a72 31 t1_72.toNatClampNeg (-1)) 14 (F_put 5 ((ua a72 31 t1_72.toNatClampNeg (-1)) 14) x2_72 (F_X5_digitAt f72 g72 (ua a72 31 t1_72.toNatClampNeg (-1)) (((4 : Int32) * x2_72) + (1 : Int32))))) (((4 : Int32) * x2_72) + (2 : Int32)))]) (rest := []) ⟨hx, hb, hml, hown, hts⟩ (c_X11_put l hz D (tX ck) (wX ad ck f72 g72 (us (ua a72 31 t1_72.toNatClampNeg (-1)) 14 (F_put 5 ((ua a72 31 t1_72.toNatClampNeg (-1)) 14) x2_72 (F_X5_digitAt f72 g72 (ua a72 31 t1_72.toNatClampNeg (-1)) (((4 : Int32) * x2_72) + (1 : Int32)))))) 15 2 rfl rfl (by decide) x2_72 (F_X5_digitAt f72 g72 (us (ua a72 31 t1_72.toNatClampNeg (-1)) 14 (F_put 5 ((ua a72 31 t1_72.toNatClampNeg (-1)) 14) x2_72 (F_X5_digitAt f72 g72 (ua a72 31 t1_72.toNatClampNeg (-1)) (((4 : Int32) * x2_72) + (1 : Int32))))) (((4 : Int32) * x2_72) + (2 : Int32)))) ⟨va_cnB 3 hts gX9_settle_X11_put_n71 rfl rfl rfl (hE.2.1 _ knX9_71) (hts (.initialized RX11) (by decide +kernel)) pX11_put ⟨Nat.le_of_ble_eq_true rfl, Nat.le_of_ble_eq_true rfl⟩, hts (.static yX11_put) (by decide +kernel), trivial⟩ (kW.preS hP (hE.kept hS hnA) hD hnA) rfl rfl hl.1 rfl (lv_room (Nat.le_of_ble_eq_true rfl)) dX9_settle_110 ⟨Nat.le_refl _, Nat.le_refl _⟩) hD hS (kSet_fst rfl) (fun H locs hP hD hS => ?_)
        have hP := kPe (es_wX15 ad ck f72 g72 (us (ua a72 31 t1_72.toNatClampNeg (-1)) 14 (F_put 5 ((ua a72 31 t1_72.toNatClampNeg (-1)) 14) x2_72 (F_X5_digitAt f72 g72 (ua a72 31 t1_72.toNatClampNeg (-1)) (((4 : Int32) * x2_72) + (1 : Int32))))) (F_put 5 ((us (ua a72 31 t1_72.toNatClampNeg (-1)) 14 (F_put 5 ((ua a72 31 t1_72.toNatClampNeg (-1)) 14) x2_72 (F_X5_digitAt f72 g72 (ua a72 31 t1_72.toNatClampNeg (-1)) (((4 : Int32) * x2_72) + (1 : Int32))))) 15) x2_72 (F_X5_digitAt f72 g72 (us (ua a72 31 t1_72.toNatClampNeg (-1)) 14 (F_put 5 ((ua a72 31 t1_72.toNatClampNeg (-1)) 14) x2_72 (F_X5_digitAt f72 g72 (ua a72 31 t1_72.toNatClampNeg (-1)) (((4 : Int32) * x2_72) + (1 : Int32))))) (((4 : Int32) * x2_72) + (2 : Int32))))) hP
        have hD := kDe (es_wX15 ad ck f72 g72 (us (ua a72 31 t1_72.toNatClampNeg (-1)) 14 (F_put 5 ((ua a72 31 t1_72.toNatClampNeg (-1)) 14) x2_72 (F_X5_digitAt f72 g72 (ua a72 31 t1_72.toNatClampNeg (-1)) (((4 : Int32) * x2_72) + (1 : Int32))))) (F_put 5 ((us (ua a72 31 t1_72.toNatClampNeg (-1)) 14 (F_put 5 ((ua a72 31 t1_72.toNatClampNeg (-1)) 14) x2_72 (F_X5_digitAt f72 g72 (ua a72 31 t1_72.toNatClampNeg (-1)) (((4 : Int32) * x2_72) + (1 : Int32))))) 15) x2_72 (F_X5_digitAt f72 g72 (us (ua a72 31 t1_72.toNatClampNeg (-1)) 14 (F_put 5 ((ua a72 31 t1_72.toNatClampNeg (-1)) 14) x2_72 (F_X5_digitAt f72 g72 (ua a72 31 t1_72.toNatClampNeg (-1)) (((4 : Int32) * x2_72) + (1 : Int32))))) (((4 : Int32) * x2_72) + (2 : Int32))))) hD
        refine lv_iinc (v := (x2_72 + 1)) (lv' := [(2, .int (x2_72 + 1)), (0, .ref (ad 2)), (1, .ref (ad 1))]) hx hb dX9_settle_113 hl (k := 2) rfl rfl (by decide) rfl (fun ls hl => ?_)
        refine lv_goto (tgt := 21) hx hb dX9_settle_116 (by decide) ?_
        have hF := Option.some.inj hF
        subst hF
        obtain ⟨r, hF, hp⟩ := hp
        exact ih21 f72 g72 (us (us (ua a72 31 t1_72.toNatClampNeg (-1)) 14 (F_put 5 ((ua a72 31 t1_72.toNatClampNeg (-1)) 14) x2_72 (F_X5_digitAt f72 g72 (ua a72 31 t1_72.toNatClampNeg (-1)) (((4 : Int32) * x2_72) + (1 : Int32))))) 15 (F_put 5 ((us (ua a72 31 t1_72.toNatClampNeg (-1)) 14 (F_put 5 ((ua a72 31 t1_72.toNatClampNeg (-1)) 14) x2_72 (F_X5_digitAt f72 g72 (ua a72 31 t1_72.toNatClampNeg (-1)) (((4 : Int32) * x2_72) + (1 : Int32))))) 15) x2_72 (F_X5_digitAt f72 g72 (us (ua a72 31 t1_72.toNatClampNeg (-1)) 14 (F_put 5 ((ua a72 31 t1_72.toNatClampNeg (-1)) 14) x2_72 (F_X5_digitAt f72 g72 (ua a72 31 t1_72.toNatClampNeg (-1)) (((4 : Int32) * x2_72) + (1 : Int32))))) (((4 : Int32) * x2_72) + (2 : Int32))))) _ _ (x2_72 + 1) ls hP hD hS (lv_sub hl [1, 2, 0] rfl) r hF hp
      have hN_71 : ∀ (f71 : Nat → Int32) (g71 : Nat → Int64) (a71 : Nat → Nat → Int32) (H : Heap) (locs : List Loc) (x2_71 : Int32) (t0_71 : Int32) (ls : Array Slot), va_P D vwCl (wX ad ck f71 g71 a71) H → va_D (kAd (wX ad ck f0 g0 a0)) (wX ad ck f71 g71 a71) → va_S (kAd (wX ad ck f0 g0 a0)) s.heap H locs → lv_has ls 4 [(0, .ref (ad 2)), (1, .ref (ad 1)), (2, .int x2_71)] → ∀ r : ((Int32 × ST) ⊕ ST), N_X9_settle_71 f71 g71 a71 x2_71 t0_71 = some r → (lpK (fun q21 : (Int32 × ST) => B_X9_settle_21 q21.2.1 q21.2.2.1 q21.2.2.2 q21.1) n21 (fun r => r = out)) r → W p l e (headSpec wsX9_settle ({ frames := 5, cells := 0, slots := 0, locals := 112 })).room s m [.ref (ad 2), .ref (ad 1)].toArray below meth c H locs 0 0 (MQ below (kQ D vwCl none (wX ad ck f0 g0 a0) (wX ad ck out.1 out.2.1 out.2.2)) [.ref (ad 2), .ref (ad 1)].toArray s 0 0 (kAd (wX ad ck f0 g0 a0))) (F0 m 71 ls [.int t0_71, .ref (ad 31)]) := by
        intro f71 g71 a71 H locs x2_71 t0_71 ls hP hD hS hl r hF hp
        unfold N_X9_settle_71 at hF
        refine lv_null hx hb dX9_settle_71 ?_
        exact hN_72 f71 g71 a71 _ _ x2_71 t0_71 ls hP hD hS (lv_sub hl [0, 1, 2] rfl) _ hF hp
      have hN_72v1 : ∀ (f72v1 : Nat → Int32) (g72v1 : Nat → Int64) (a72v1 : Nat → Nat → Int32) (H : Heap) (locs : List Loc) (x2_72v1 : Int32) (t1_72v1 : Int32) (ls : Array Slot), va_P D vwCl (wX ad ck f72v1 g72v1 a72v1) H → va_D (kAd (wX ad ck f0 g0 a0)) (wX ad ck f72v1 g72v1 a72v1) → va_S (kAd (wX ad ck f0 g0 a0)) s.heap H locs → lv_has ls 4 [(0, .ref (ad 2)), (1, .ref (ad 1)), (2, .int x2_72v1)] → ∀ r : ((Int32 × ST) ⊕ ST), N_X9_settle_72v1 f72v1 g72v1 a72v1 x2_72v1 t1_72v1 = some r → (lpK (fun q21 : (Int32 × ST) => B_X9_settle_21 q21.2.1 q21.2.2.1 q21.2.2.2 q21.1) n21 (fun r => r = out)) r → W p l e (headSpec wsX9_settle ({ frames := 5, cells := 0, slots := 0, locals := 112 })).room s m [.ref (ad 2), .ref (ad 1)].toArray below meth c H locs 0 0 (MQ below (kQ D vwCl none (wX ad ck f0 g0 a0) (wX ad ck out.1 out.2.1 out.2.2)) [.ref (ad 2), .ref (ad 1)].toArray s 0 0 (kAd (wX ad ck f0 g0 a0))) (F0 m 72 ls [.ref (ad 8), .int t1_72v1, .ref (ad 31)]) := by
        intro f72v1 g72v1 a72v1 H locs x2_72v1 t1_72v1 ls hP hD hS hl r hF hp
        unfold N_X9_settle_72v1 at hF
        obtain ⟨hg10, hF⟩ := gd_s hF
        refine va_astq hx hb hK hP hD hS 31 18 8 6 rfl rfl rfl rfl (inB_in hg10) dX9_settle_72 (fun H locs hP hD hS => ?_)
        have hP := kPe (ep_0 ad ck f72v1 g72v1 a72v1 t1_72v1.toNatClampNeg) hP
        have hD := kDe (ep_0 ad ck f72v1 g72v1 a72v1 t1_72v1.toNatClampNeg) hD
        refine lv_aload_n hx hb dX9_settle_73 rfl (lv_at hl 0 rfl) ?_
        refine va_get (D := D) (ci := 9) (v := .ref (ad 3)) (C := RX9) (T := TX9) (N := 4) hx hb hts hiX9 hown hK hP 2 rfl rfl 0 (by decide) hf12 (fun _ h9 => h9) rfl dX9_settle_74 ?_
        refine va_get (D := D) (ci := 3) (v := .ref (ad 14)) (C := RX3) (T := TX3) (N := 10) hx hb hts hiX3 hown hK hP 3 rfl rfl 0 (by decide) hf64 (fun _ h9 => h9) rfl dX9_settle_77 ?_
        refine lv_iload_n hx hb dX9_settle_80 rfl (lv_at hl 2 rfl) ?_
        refine lv_aload_n hx hb dX9_settle_81 rfl (lv_at hl 1 rfl) ?_
        refine lv_iconst (v := 4) hx hb dX9_settle_82 (by decide) ?_
        refine lv_iload_n hx hb dX9_settle_83 rfl (lv_at hl 2 rfl) ?_
        refine lv_imul hx hb dX9_settle_84 ?_
        refine lv_iconst (v := 1) hx hb dX9_settle_85 (by decide) ?_
        refine lv_iadd hx hb dX9_settle_86 ?_
        refine kS_i (va_runV (As := [.int (((4 : Int32) * x2_72v1) + (1 : Int32))]) (rest := [.int x2_72v1, .ref (ad 14)]) ⟨hx, hb, hml, hown, hts⟩ (c_X5_digitAt l hz D ad ck f72v1 g72v1 (ua a72v1 31 t1_72v1.toNatClampNeg 0) (((4 : Int32) * x2_72v1) + (1 : Int32))) (cwV 1 hts gX9_settle_X5_digitAt rfl rfl rfl ⟨rfl, pX5_digitAt⟩ ⟨Nat.le_of_ble_eq_true rfl, Nat.le_of_ble_eq_true rfl⟩) (kR.preV (va_recv hK hP (ci := 5) (q0 := 1) rfl rfl) hP (hE.kept hS hnA)) rfl rfl hl.1 rfl (lv_room (Nat.le_of_ble_eq_true rfl)) dX9_settle_87 ⟨Nat.le_refl _, Nat.le_refl _⟩) ?_
        refine kS_w (va_runSN (As := [.ref (ad 14), .int x2_72v1, .int (F_X5_digitAt f72v1 g72v1 (ua a72v1 31 t1_72v1.toNatClampNeg 0) (((4 : Int32) * x2_72v1) + (1 : Int32)))]) (rest := []) ⟨hx, hb, hml, hown, hts⟩ (c_X11_put l hz D (tX ck) (wX ad ck f72v1 g72v1 (ua a72v1 31 t1_72v1.toNatClampNeg 0)) 14 1 rfl rfl (by decide) x2_72v1 (F_X5_digitAt f72v1 g72v1 (ua a72v1 31 t1_72v1.toNatClampNeg 0) (((4 : Int32) * x2_72v1) + (1 : Int32)))) ⟨va_cnB 3 hts gX9_settle_X11_put_n71 rfl rfl rfl (hE.2.1 _ knX9_71) (hts (.initialized RX11) (by decide +kernel)) pX11_put ⟨Nat.le_of_ble_eq_true rfl, Nat.le_of_ble_eq_true rfl⟩, hts (.static yX11_put) (by decide +kernel), trivial⟩ (kW.preS hP (hE.kept hS hnA) hD hnA) rfl rfl hl.1 rfl (lv_room (Nat.le_of_ble_eq_true rfl)) dX9_settle_90 ⟨Nat.le_refl _, Nat.le_refl _⟩) hD hS (kSet_fst rfl) (fun H locs hP hD hS => ?_)
        have hP := kPe (es_wX14 ad ck f72v1 g72v1 (ua a72v1 31 t1_72v1.toNatClampNeg 0) (F_put 5 ((ua a72v1 31 t1_72v1.toNatClampNeg 0) 14) x2_72v1 (F_X5_digitAt f72v1 g72v1 (ua a72v1 31 t1_72v1.toNatClampNeg 0) (((4 : Int32) * x2_72v1) + (1 : Int32))))) hP
        have hD := kDe (es_wX14 ad ck f72v1 g72v1 (ua a72v1 31 t1_72v1.toNatClampNeg 0) (F_put 5 ((ua a72v1 31 t1_72v1.toNatClampNeg 0) 14) x2_72v1 (F_X5_digitAt f72v1 g72v1 (ua a72v1 31 t1_72v1.toNatClampNeg 0) (((4 : Int32) * x2_72v1) + (1 : Int32))))) hD
        refine lv_aload_n hx hb dX9_settle_93 rfl (lv_at hl 0 rfl) ?_
        refine va_get (D := D) (ci := 9) (v := .ref (ad 3)) (C := RX9) (T := TX9) (N := 4) hx hb hts hiX9 hown hK hP 2 rfl rfl 0 (by decide) hf12 (fun _ h9 => h9) rfl dX9_settle_94 ?_
        refine va_get (D := D) (ci := 3) (v := .ref (ad 15)) (C := RX3) (T := TX3) (N := 10) hx hb hts hiX3 hown hK hP 3 rfl rfl 1 (by decide) hf75 (fun _ h9 => h9) rfl dX9_settle_97 ?_
        refine lv_iload_n hx hb dX9_settle_100 rfl (lv_at hl 2 rfl) ?_
        refine lv_aload_n hx hb dX9_settle_101 rfl (lv_at hl 1 rfl) ?_
        refine lv_iconst (v := 4) hx hb dX9_settle_102 (by decide) ?_
        refine lv_iload_n hx hb dX9_settle_103 rfl (lv_at hl 2 rfl) ?_
        refine lv_imul hx hb dX9_settle_104 ?_
        refine lv_iconst (v := 2) hx hb dX9_settle_105 (by decide) ?_
        refine lv_iadd hx hb dX9_settle_106 ?_
        refine kS_i (va_runV (As := [.int (((4 : Int32) * x2_72v1) + (2 : Int32))]) (rest := [.int x2_72v1, .ref (ad 15)]) ⟨hx, hb, hml, hown, hts⟩ (c_X5_digitAt l hz D ad ck f72v1 g72v1 (us (ua a72v1 31 t1_72v1.toNatClampNeg 0) 14 (F_put 5 ((ua a72v1 31 t1_72v1.toNatClampNeg 0) 14) x2_72v1 (F_X5_digitAt f72v1 g72v1 (ua a72v1 31 t1_72v1.toNatClampNeg 0) (((4 : Int32) * x2_72v1) + (1 : Int32))))) (((4 : Int32) * x2_72v1) + (2 : Int32))) (cwV 1 hts gX9_settle_X5_digitAt rfl rfl rfl ⟨rfl, pX5_digitAt⟩ ⟨Nat.le_of_ble_eq_true rfl, Nat.le_of_ble_eq_true rfl⟩) (kR.preV (va_recv hK hP (ci := 5) (q0 := 1) rfl rfl) hP (hE.kept hS hnA)) rfl rfl hl.1 rfl (lv_room (Nat.le_of_ble_eq_true rfl)) dX9_settle_107 ⟨Nat.le_refl _, Nat.le_refl _⟩) ?_
        refine kS_w (va_runSN (As := [.ref (ad 15), .int x2_72v1, .int (F_X5_digitAt f72v1 g72v1 (us (ua a72v1 31 t1_72v1.toNatClampNeg 0) 14 (F_put 5 ((ua a72v1 31 t1_72v1.toNatClampNeg 0) 14) x2_72v1 (F_X5_digitAt f72v1 g72v1 (ua a72v1 31 t1_72v1.toNatClampNeg 0) (((4 : Int32) * x2_72v1) + (1 : Int32))))) (((4 : Int32) * x2_72v1) + (2 : Int32)))]) (rest := []) ⟨hx, hb, hml, hown, hts⟩ (c_X11_put l hz D (tX ck) (wX ad ck f72v1 g72v1 (us (ua a72v1 31 t1_72v1.toNatClampNeg 0) 14 (F_put 5 ((ua a72v1 31 t1_72v1.toNatClampNeg 0) 14) x2_72v1 (F_X5_digitAt f72v1 g72v1 (ua a72v1 31 t1_72v1.toNatClampNeg 0) (((4 : Int32) * x2_72v1) + (1 : Int32)))))) 15 2 rfl rfl (by decide) x2_72v1 (F_X5_digitAt f72v1 g72v1 (us (ua a72v1 31 t1_72v1.toNatClampNeg 0) 14 (F_put 5 ((ua a72v1 31 t1_72v1.toNatClampNeg 0) 14) x2_72v1 (F_X5_digitAt f72v1 g72v1 (ua a72v1 31 t1_72v1.toNatClampNeg 0) (((4 : Int32) * x2_72v1) + (1 : Int32))))) (((4 : Int32) * x2_72v1) + (2 : Int32)))) ⟨va_cnB 3 hts gX9_settle_X11_put_n71 rfl rfl rfl (hE.2.1 _ knX9_71) (hts (.initialized RX11) (by decide +kernel)) pX11_put ⟨Nat.le_of_ble_eq_true rfl, Nat.le_of_ble_eq_true rfl⟩, hts (.static yX11_put) (by decide +kernel), trivial⟩ (kW.preS hP (hE.kept hS hnA) hD hnA) rfl rfl hl.1 rfl (lv_room (Nat.le_of_ble_eq_true rfl)) dX9_settle_110 ⟨Nat.le_refl _, Nat.le_refl _⟩) hD hS (kSet_fst rfl) (fun H locs hP hD hS => ?_)
        have hP := kPe (es_wX15 ad ck f72v1 g72v1 (us (ua a72v1 31 t1_72v1.toNatClampNeg 0) 14 (F_put 5 ((ua a72v1 31 t1_72v1.toNatClampNeg 0) 14) x2_72v1 (F_X5_digitAt f72v1 g72v1 (ua a72v1 31 t1_72v1.toNatClampNeg 0) (((4 : Int32) * x2_72v1) + (1 : Int32))))) (F_put 5 ((us (ua a72v1 31 t1_72v1.toNatClampNeg 0) 14 (F_put 5 ((ua a72v1 31 t1_72v1.toNatClampNeg 0) 14) x2_72v1 (F_X5_digitAt f72v1 g72v1 (ua a72v1 31 t1_72v1.toNatClampNeg 0) (((4 : Int32) * x2_72v1) + (1 : Int32))))) 15) x2_72v1 (F_X5_digitAt f72v1 g72v1 (us (ua a72v1 31 t1_72v1.toNatClampNeg 0) 14 (F_put 5 ((ua a72v1 31 t1_72v1.toNatClampNeg 0) 14) x2_72v1 (F_X5_digitAt f72v1 g72v1 (ua a72v1 31 t1_72v1.toNatClampNeg 0) (((4 : Int32) * x2_72v1) + (1 : Int32))))) (((4 : Int32) * x2_72v1) + (2 : Int32))))) hP
        have hD := kDe (es_wX15 ad ck f72v1 g72v1 (us (ua a72v1 31 t1_72v1.toNatClampNeg 0) 14 (F_put 5 ((ua a72v1 31 t1_72v1.toNatClampNeg 0) 14) x2_72v1 (F_X5_digitAt f72v1 g72v1 (ua a72v1 31 t1_72v1.toNatClampNeg 0) (((4 : Int32) * x2_72v1) + (1 : Int32))))) (F_put 5 ((us (ua a72v1 31 t1_72v1.toNatClampNeg 0) 14 (F_put 5 ((ua a72v1 31 t1_72v1.toNatClampNeg 0) 14) x2_72v1 (F_X5_digitAt f72v1 g72v1 (ua a72v1 31 t1_72v1.toNatClampNeg 0) (((4 : Int32) * x2_72v1) + (1 : Int32))))) 15) x2_72v1 (F_X5_digitAt f72v1 g72v1 (us (ua a72v1 31 t1_72v1.toNatClampNeg 0) 14 (F_put 5 ((ua a72v1 31 t1_72v1.toNatClampNeg 0) 14) x2_72v1 (F_X5_digitAt f72v1 g72v1 (ua a72v1 31 t1_72v1.toNatClampNeg 0) (((4 : Int32) * x2_72v1) + (1 : Int32))))) (((4 : Int32) * x2_72v1) + (2 : Int32))))) hD
        refine lv_iinc (v := (x2_72v1 + 1)) (lv' := [(2, .int (x2_72v1 + 1)), (0, .ref (ad 2)), (1, .ref (ad 1))]) hx hb dX9_settle_113 hl (k := 2) rfl rfl (by decide) rfl (fun ls hl => ?_)
        refine lv_goto (tgt := 21) hx hb dX9_settle_116 (by decide) ?_
        have hF := Option.some.inj hF
        subst hF
        obtain ⟨r, hF, hp⟩ := hp
        exact ih21 f72v1 g72v1 (us (us (ua a72v1 31 t1_72v1.toNatClampNeg 0) 14 (F_put 5 ((ua a72v1 31 t1_72v1.toNatClampNeg 0) 14) x2_72v1 (F_X5_digitAt f72v1 g72v1 (ua a72v1 31 t1_72v1.toNatClampNeg 0) (((4 : Int32) * x2_72v1) + (1 : Int32))))) 15 (F_put 5 ((us (ua a72v1 31 t1_72v1.toNatClampNeg 0) 14 (F_put 5 ((ua a72v1 31 t1_72v1.toNatClampNeg 0) 14) x2_72v1 (F_X5_digitAt f72v1 g72v1 (ua a72v1 31 t1_72v1.toNatClampNeg 0) (((4 : Int32) * x2_72v1) + (1 : Int32))))) 15) x2_72v1 (F_X5_digitAt f72v1 g72v1 (us (ua a72v1 31 t1_72v1.toNatClampNeg 0) 14 (F_put 5 ((ua a72v1 31 t1_72v1.toNatClampNeg 0) 14) x2_72v1 (F_X5_digitAt f72v1 g72v1 (ua a72v1 31 t1_72v1.toNatClampNeg 0) (((4 : Int32) * x2_72v1) + (1 : Int32))))) (((4 : Int32) * x2_72v1) + (2 : Int32))))) _ _ (x2_72v1 + 1) ls hP hD hS (lv_sub hl [1, 2, 0] rfl) r hF hp
      have hN_72v2 : ∀ (f72v2 : Nat → Int32) (g72v2 : Nat → Int64) (a72v2 : Nat → Nat → Int32) (H : Heap) (locs : List Loc) (x2_72v2 : Int32) (t1_72v2 : Int32) (ls : Array Slot), va_P D vwCl (wX ad ck f72v2 g72v2 a72v2) H → va_D (kAd (wX ad ck f0 g0 a0)) (wX ad ck f72v2 g72v2 a72v2) → va_S (kAd (wX ad ck f0 g0 a0)) s.heap H locs → lv_has ls 4 [(0, .ref (ad 2)), (1, .ref (ad 1)), (2, .int x2_72v2)] → ∀ r : ((Int32 × ST) ⊕ ST), N_X9_settle_72v2 f72v2 g72v2 a72v2 x2_72v2 t1_72v2 = some r → (lpK (fun q21 : (Int32 × ST) => B_X9_settle_21 q21.2.1 q21.2.2.1 q21.2.2.2 q21.1) n21 (fun r => r = out)) r → W p l e (headSpec wsX9_settle ({ frames := 5, cells := 0, slots := 0, locals := 112 })).room s m [.ref (ad 2), .ref (ad 1)].toArray below meth c H locs 0 0 (MQ below (kQ D vwCl none (wX ad ck f0 g0 a0) (wX ad ck out.1 out.2.1 out.2.2)) [.ref (ad 2), .ref (ad 1)].toArray s 0 0 (kAd (wX ad ck f0 g0 a0))) (F0 m 72 ls [.ref (ad 9), .int t1_72v2, .ref (ad 31)]) := by
        intro f72v2 g72v2 a72v2 H locs x2_72v2 t1_72v2 ls hP hD hS hl r hF hp
        unfold N_X9_settle_72v2 at hF
        obtain ⟨hg12, hF⟩ := gd_s hF
        refine va_astqO hx hb hK hP hD hS 31 18 9 2 rfl rfl (hE.2.1 _ kcX2_X6) rfl rfl (inB_in hg12) dX9_settle_72 (fun H locs hP hD hS => ?_)
        have hP := kPe (ep_1 ad ck f72v2 g72v2 a72v2 t1_72v2.toNatClampNeg) hP
        have hD := kDe (ep_1 ad ck f72v2 g72v2 a72v2 t1_72v2.toNatClampNeg) hD
        refine lv_aload_n hx hb dX9_settle_73 rfl (lv_at hl 0 rfl) ?_
        refine va_get (D := D) (ci := 9) (v := .ref (ad 3)) (C := RX9) (T := TX9) (N := 4) hx hb hts hiX9 hown hK hP 2 rfl rfl 0 (by decide) hf12 (fun _ h9 => h9) rfl dX9_settle_74 ?_
        refine va_get (D := D) (ci := 3) (v := .ref (ad 14)) (C := RX3) (T := TX3) (N := 10) hx hb hts hiX3 hown hK hP 3 rfl rfl 0 (by decide) hf64 (fun _ h9 => h9) rfl dX9_settle_77 ?_
        refine lv_iload_n hx hb dX9_settle_80 rfl (lv_at hl 2 rfl) ?_
        refine lv_aload_n hx hb dX9_settle_81 rfl (lv_at hl 1 rfl) ?_
        refine lv_iconst (v := 4) hx hb dX9_settle_82 (by decide) ?_
        refine lv_iload_n hx hb dX9_settle_83 rfl (lv_at hl 2 rfl) ?_
        refine lv_imul hx hb dX9_settle_84 ?_
        refine lv_iconst (v := 1) hx hb dX9_settle_85 (by decide) ?_
        refine lv_iadd hx hb dX9_settle_86 ?_
        refine kS_i (va_runV (As := [.int (((4 : Int32) * x2_72v2) + (1 : Int32))]) (rest := [.int x2_72v2, .ref (ad 14)]) ⟨hx, hb, hml, hown, hts⟩ (c_X5_digitAt l hz D ad ck f72v2 g72v2 (ua a72v2 31 t1_72v2.toNatClampNeg 1) (((4 : Int32) * x2_72v2) + (1 : Int32))) (cwV 1 hts gX9_settle_X5_digitAt rfl rfl rfl ⟨rfl, pX5_digitAt⟩ ⟨Nat.le_of_ble_eq_true rfl, Nat.le_of_ble_eq_true rfl⟩) (kR.preV (va_recv hK hP (ci := 5) (q0 := 1) rfl rfl) hP (hE.kept hS hnA)) rfl rfl hl.1 rfl (lv_room (Nat.le_of_ble_eq_true rfl)) dX9_settle_87 ⟨Nat.le_refl _, Nat.le_refl _⟩) ?_
        refine kS_w (va_runSN (As := [.ref (ad 14), .int x2_72v2, .int (F_X5_digitAt f72v2 g72v2 (ua a72v2 31 t1_72v2.toNatClampNeg 1) (((4 : Int32) * x2_72v2) + (1 : Int32)))]) (rest := []) ⟨hx, hb, hml, hown, hts⟩ (c_X11_put l hz D (tX ck) (wX ad ck f72v2 g72v2 (ua a72v2 31 t1_72v2.toNatClampNeg 1)) 14 1 rfl rfl (by decide) x2_72v2 (F_X5_digitAt f72v2 g72v2 (ua a72v2 31 t1_72v2.toNatClampNeg 1) (((4 : Int32) * x2_72v2) + (1 : Int32)))) ⟨va_cnB 3 hts gX9_settle_X11_put_n71 rfl rfl rfl (hE.2.1 _ knX9_71) (hts (.initialized RX11) (by decide +kernel)) pX11_put ⟨Nat.le_of_ble_eq_true rfl, Nat.le_of_ble_eq_true rfl⟩, hts (.static yX11_put) (by decide +kernel), trivial⟩ (kW.preS hP (hE.kept hS hnA) hD hnA) rfl rfl hl.1 rfl (lv_room (Nat.le_of_ble_eq_true rfl)) dX9_settle_90 ⟨Nat.le_refl _, Nat.le_refl _⟩) hD hS (kSet_fst rfl) (fun H locs hP hD hS => ?_)
        have hP := kPe (es_wX14 ad ck f72v2 g72v2 (ua a72v2 31 t1_72v2.toNatClampNeg 1) (F_put 5 ((ua a72v2 31 t1_72v2.toNatClampNeg 1) 14) x2_72v2 (F_X5_digitAt f72v2 g72v2 (ua a72v2 31 t1_72v2.toNatClampNeg 1) (((4 : Int32) * x2_72v2) + (1 : Int32))))) hP
        have hD := kDe (es_wX14 ad ck f72v2 g72v2 (ua a72v2 31 t1_72v2.toNatClampNeg 1) (F_put 5 ((ua a72v2 31 t1_72v2.toNatClampNeg 1) 14) x2_72v2 (F_X5_digitAt f72v2 g72v2 (ua a72v2 31 t1_72v2.toNatClampNeg 1) (((4 : Int32) * x2_72v2) + (1 : Int32))))) hD
        refine lv_aload_n hx hb dX9_settle_93 rfl (lv_at hl 0 rfl) ?_
        refine va_get (D := D) (ci := 9) (v := .ref (ad 3)) (C := RX9) (T := TX9) (N := 4) hx hb hts hiX9 hown hK hP 2 rfl rfl 0 (by decide) hf12 (fun _ h9 => h9) rfl dX9_settle_94 ?_
        refine va_get (D := D) (ci := 3) (v := .ref (ad 15)) (C := RX3) (T := TX3) (N := 10) hx hb hts hiX3 hown hK hP 3 rfl rfl 1 (by decide) hf75 (fun _ h9 => h9) rfl dX9_settle_97 ?_
        refine lv_iload_n hx hb dX9_settle_100 rfl (lv_at hl 2 rfl) ?_
        refine lv_aload_n hx hb dX9_settle_101 rfl (lv_at hl 1 rfl) ?_
        refine lv_iconst (v := 4) hx hb dX9_settle_102 (by decide) ?_
        refine lv_iload_n hx hb dX9_settle_103 rfl (lv_at hl 2 rfl) ?_
        refine lv_imul hx hb dX9_settle_104 ?_
        refine lv_iconst (v := 2) hx hb dX9_settle_105 (by decide) ?_
        refine lv_iadd hx hb dX9_settle_106 ?_
        refine kS_i (va_runV (As := [.int (((4 : Int32) * x2_72v2) + (2 : Int32))]) (rest := [.int x2_72v2, .ref (ad 15)]) ⟨hx, hb, hml, hown, hts⟩ (c_X5_digitAt l hz D ad ck f72v2 g72v2 (us (ua a72v2 31 t1_72v2.toNatClampNeg 1) 14 (F_put 5 ((ua a72v2 31 t1_72v2.toNatClampNeg 1) 14) x2_72v2 (F_X5_digitAt f72v2 g72v2 (ua a72v2 31 t1_72v2.toNatClampNeg 1) (((4 : Int32) * x2_72v2) + (1 : Int32))))) (((4 : Int32) * x2_72v2) + (2 : Int32))) (cwV 1 hts gX9_settle_X5_digitAt rfl rfl rfl ⟨rfl, pX5_digitAt⟩ ⟨Nat.le_of_ble_eq_true rfl, Nat.le_of_ble_eq_true rfl⟩) (kR.preV (va_recv hK hP (ci := 5) (q0 := 1) rfl rfl) hP (hE.kept hS hnA)) rfl rfl hl.1 rfl (lv_room (Nat.le_of_ble_eq_true rfl)) dX9_settle_107 ⟨Nat.le_refl _, Nat.le_refl _⟩) ?_
        refine kS_w (va_runSN (As := [.ref (ad 15), .int x2_72v2, .int (F_X5_digitAt f72v2 g72v2 (us (ua a72v2 31 t1_72v2.toNatClampNeg 1) 14 (F_put 5 ((ua a72v2 31 t1_72v2.toNatClampNeg 1) 14) x2_72v2 (F_X5_digitAt f72v2 g72v2 (ua a72v2 31 t1_72v2.toNatClampNeg 1) (((4 : Int32) * x2_72v2) + (1 : Int32))))) (((4 : Int32) * x2_72v2) + (2 : Int32)))]) (rest := []) ⟨hx, hb, hml, hown, hts⟩ (c_X11_put l hz D (tX ck) (wX ad ck f72v2 g72v2 (us (ua a72v2 31 t1_72v2.toNatClampNeg 1) 14 (F_put 5 ((ua a72v2 31 t1_72v2.toNatClampNeg 1) 14) x2_72v2 (F_X5_digitAt f72v2 g72v2 (ua a72v2 31 t1_72v2.toNatClampNeg 1) (((4 : Int32) * x2_72v2) + (1 : Int32)))))) 15 2 rfl rfl (by decide) x2_72v2 (F_X5_digitAt f72v2 g72v2 (us (ua a72v2 31 t1_72v2.toNatClampNeg 1) 14 (F_put 5 ((ua a72v2 31 t1_72v2.toNatClampNeg 1) 14) x2_72v2 (F_X5_digitAt f72v2 g72v2 (ua a72v2 31 t1_72v2.toNatClampNeg 1) (((4 : Int32) * x2_72v2) + (1 : Int32))))) (((4 : Int32) * x2_72v2) + (2 : Int32)))) ⟨va_cnB 3 hts gX9_settle_X11_put_n71 rfl rfl rfl (hE.2.1 _ knX9_71) (hts (.initialized RX11) (by decide +kernel)) pX11_put ⟨Nat.le_of_ble_eq_true rfl, Nat.le_of_ble_eq_true rfl⟩, hts (.static yX11_put) (by decide +kernel), trivial⟩ (kW.preS hP (hE.kept hS hnA) hD hnA) rfl rfl hl.1 rfl (lv_room (Nat.le_of_ble_eq_true rfl)) dX9_settle_110 ⟨Nat.le_refl _, Nat.le_refl _⟩) hD hS (kSet_fst rfl) (fun H locs hP hD hS => ?_)
        have hP := kPe (es_wX15 ad ck f72v2 g72v2 (us (ua a72v2 31 t1_72v2.toNatClampNeg 1) 14 (F_put 5 ((ua a72v2 31 t1_72v2.toNatClampNeg 1) 14) x2_72v2 (F_X5_digitAt f72v2 g72v2 (ua a72v2 31 t1_72v2.toNatClampNeg 1) (((4 : Int32) * x2_72v2) + (1 : Int32))))) (F_put 5 ((us (ua a72v2 31 t1_72v2.toNatClampNeg 1) 14 (F_put 5 ((ua a72v2 31 t1_72v2.toNatClampNeg 1) 14) x2_72v2 (F_X5_digitAt f72v2 g72v2 (ua a72v2 31 t1_72v2.toNatClampNeg 1) (((4 : Int32) * x2_72v2) + (1 : Int32))))) 15) x2_72v2 (F_X5_digitAt f72v2 g72v2 (us (ua a72v2 31 t1_72v2.toNatClampNeg 1) 14 (F_put 5 ((ua a72v2 31 t1_72v2.toNatClampNeg 1) 14) x2_72v2 (F_X5_digitAt f72v2 g72v2 (ua a72v2 31 t1_72v2.toNatClampNeg 1) (((4 : Int32) * x2_72v2) + (1 : Int32))))) (((4 : Int32) * x2_72v2) + (2 : Int32))))) hP
        have hD := kDe (es_wX15 ad ck f72v2 g72v2 (us (ua a72v2 31 t1_72v2.toNatClampNeg 1) 14 (F_put 5 ((ua a72v2 31 t1_72v2.toNatClampNeg 1) 14) x2_72v2 (F_X5_digitAt f72v2 g72v2 (ua a72v2 31 t1_72v2.toNatClampNeg 1) (((4 : Int32) * x2_72v2) + (1 : Int32))))) (F_put 5 ((us (ua a72v2 31 t1_72v2.toNatClampNeg 1) 14 (F_put 5 ((ua a72v2 31 t1_72v2.toNatClampNeg 1) 14) x2_72v2 (F_X5_digitAt f72v2 g72v2 (ua a72v2 31 t1_72v2.toNatClampNeg 1) (((4 : Int32) * x2_72v2) + (1 : Int32))))) 15) x2_72v2 (F_X5_digitAt f72v2 g72v2 (us (ua a72v2 31 t1_72v2.toNatClampNeg 1) 14 (F_put 5 ((ua a72v2 31 t1_72v2.toNatClampNeg 1) 14) x2_72v2 (F_X5_digitAt f72v2 g72v2 (ua a72v2 31 t1_72v2.toNatClampNeg 1) (((4 : Int32) * x2_72v2) + (1 : Int32))))) (((4 : Int32) * x2_72v2) + (2 : Int32))))) hD
        refine lv_iinc (v := (x2_72v2 + 1)) (lv' := [(2, .int (x2_72v2 + 1)), (0, .ref (ad 2)), (1, .ref (ad 1))]) hx hb dX9_settle_113 hl (k := 2) rfl rfl (by decide) rfl (fun ls hl => ?_)
        refine lv_goto (tgt := 21) hx hb dX9_settle_116 (by decide) ?_
        have hF := Option.some.inj hF
        subst hF
        obtain ⟨r, hF, hp⟩ := hp
        exact ih21 f72v2 g72v2 (us (us (ua a72v2 31 t1_72v2.toNatClampNeg 1) 14 (F_put 5 ((ua a72v2 31 t1_72v2.toNatClampNeg 1) 14) x2_72v2 (F_X5_digitAt f72v2 g72v2 (ua a72v2 31 t1_72v2.toNatClampNeg 1) (((4 : Int32) * x2_72v2) + (1 : Int32))))) 15 (F_put 5 ((us (ua a72v2 31 t1_72v2.toNatClampNeg 1) 14 (F_put 5 ((ua a72v2 31 t1_72v2.toNatClampNeg 1) 14) x2_72v2 (F_X5_digitAt f72v2 g72v2 (ua a72v2 31 t1_72v2.toNatClampNeg 1) (((4 : Int32) * x2_72v2) + (1 : Int32))))) 15) x2_72v2 (F_X5_digitAt f72v2 g72v2 (us (ua a72v2 31 t1_72v2.toNatClampNeg 1) 14 (F_put 5 ((ua a72v2 31 t1_72v2.toNatClampNeg 1) 14) x2_72v2 (F_X5_digitAt f72v2 g72v2 (ua a72v2 31 t1_72v2.toNatClampNeg 1) (((4 : Int32) * x2_72v2) + (1 : Int32))))) (((4 : Int32) * x2_72v2) + (2 : Int32))))) _ _ (x2_72v2 + 1) ls hP hD hS (lv_sub hl [1, 2, 0] rfl) r hF hp
      have hN_72v3 : ∀ (f72v3 : Nat → Int32) (g72v3 : Nat → Int64) (a72v3 : Nat → Nat → Int32) (H : Heap) (locs : List Loc) (x2_72v3 : Int32) (t1_72v3 : Int32) (ls : Array Slot), va_P D vwCl (wX ad ck f72v3 g72v3 a72v3) H → va_D (kAd (wX ad ck f0 g0 a0)) (wX ad ck f72v3 g72v3 a72v3) → va_S (kAd (wX ad ck f0 g0 a0)) s.heap H locs → lv_has ls 4 [(0, .ref (ad 2)), (1, .ref (ad 1)), (2, .int x2_72v3)] → ∀ r : ((Int32 × ST) ⊕ ST), N_X9_settle_72v3 f72v3 g72v3 a72v3 x2_72v3 t1_72v3 = some r → (lpK (fun q21 : (Int32 × ST) => B_X9_settle_21 q21.2.1 q21.2.2.1 q21.2.2.2 q21.1) n21 (fun r => r = out)) r → W p l e (headSpec wsX9_settle ({ frames := 5, cells := 0, slots := 0, locals := 112 })).room s m [.ref (ad 2), .ref (ad 1)].toArray below meth c H locs 0 0 (MQ below (kQ D vwCl none (wX ad ck f0 g0 a0) (wX ad ck out.1 out.2.1 out.2.2)) [.ref (ad 2), .ref (ad 1)].toArray s 0 0 (kAd (wX ad ck f0 g0 a0))) (F0 m 72 ls [.ref (ad 10), .int t1_72v3, .ref (ad 31)]) := by
        intro f72v3 g72v3 a72v3 H locs x2_72v3 t1_72v3 ls hP hD hS hl r hF hp
        unfold N_X9_settle_72v3 at hF
        obtain ⟨hg14, hF⟩ := gd_s hF
        refine va_astqO hx hb hK hP hD hS 31 18 10 0 rfl rfl (hE.2.1 _ kcX0_X6) rfl rfl (inB_in hg14) dX9_settle_72 (fun H locs hP hD hS => ?_)
        have hP := kPe (ep_2 ad ck f72v3 g72v3 a72v3 t1_72v3.toNatClampNeg) hP
        have hD := kDe (ep_2 ad ck f72v3 g72v3 a72v3 t1_72v3.toNatClampNeg) hD
        refine lv_aload_n hx hb dX9_settle_73 rfl (lv_at hl 0 rfl) ?_
        refine va_get (D := D) (ci := 9) (v := .ref (ad 3)) (C := RX9) (T := TX9) (N := 4) hx hb hts hiX9 hown hK hP 2 rfl rfl 0 (by decide) hf12 (fun _ h9 => h9) rfl dX9_settle_74 ?_
        refine va_get (D := D) (ci := 3) (v := .ref (ad 14)) (C := RX3) (T := TX3) (N := 10) hx hb hts hiX3 hown hK hP 3 rfl rfl 0 (by decide) hf64 (fun _ h9 => h9) rfl dX9_settle_77 ?_
        refine lv_iload_n hx hb dX9_settle_80 rfl (lv_at hl 2 rfl) ?_
        refine lv_aload_n hx hb dX9_settle_81 rfl (lv_at hl 1 rfl) ?_
        refine lv_iconst (v := 4) hx hb dX9_settle_82 (by decide) ?_
        refine lv_iload_n hx hb dX9_settle_83 rfl (lv_at hl 2 rfl) ?_
        refine lv_imul hx hb dX9_settle_84 ?_
        refine lv_iconst (v := 1) hx hb dX9_settle_85 (by decide) ?_
        refine lv_iadd hx hb dX9_settle_86 ?_
        refine kS_i (va_runV (As := [.int (((4 : Int32) * x2_72v3) + (1 : Int32))]) (rest := [.int x2_72v3, .ref (ad 14)]) ⟨hx, hb, hml, hown, hts⟩ (c_X5_digitAt l hz D ad ck f72v3 g72v3 (ua a72v3 31 t1_72v3.toNatClampNeg 2) (((4 : Int32) * x2_72v3) + (1 : Int32))) (cwV 1 hts gX9_settle_X5_digitAt rfl rfl rfl ⟨rfl, pX5_digitAt⟩ ⟨Nat.le_of_ble_eq_true rfl, Nat.le_of_ble_eq_true rfl⟩) (kR.preV (va_recv hK hP (ci := 5) (q0 := 1) rfl rfl) hP (hE.kept hS hnA)) rfl rfl hl.1 rfl (lv_room (Nat.le_of_ble_eq_true rfl)) dX9_settle_87 ⟨Nat.le_refl _, Nat.le_refl _⟩) ?_
        refine kS_w (va_runSN (As := [.ref (ad 14), .int x2_72v3, .int (F_X5_digitAt f72v3 g72v3 (ua a72v3 31 t1_72v3.toNatClampNeg 2) (((4 : Int32) * x2_72v3) + (1 : Int32)))]) (rest := []) ⟨hx, hb, hml, hown, hts⟩ (c_X11_put l hz D (tX ck) (wX ad ck f72v3 g72v3 (ua a72v3 31 t1_72v3.toNatClampNeg 2)) 14 1 rfl rfl (by decide) x2_72v3 (F_X5_digitAt f72v3 g72v3 (ua a72v3 31 t1_72v3.toNatClampNeg 2) (((4 : Int32) * x2_72v3) + (1 : Int32)))) ⟨va_cnB 3 hts gX9_settle_X11_put_n71 rfl rfl rfl (hE.2.1 _ knX9_71) (hts (.initialized RX11) (by decide +kernel)) pX11_put ⟨Nat.le_of_ble_eq_true rfl, Nat.le_of_ble_eq_true rfl⟩, hts (.static yX11_put) (by decide +kernel), trivial⟩ (kW.preS hP (hE.kept hS hnA) hD hnA) rfl rfl hl.1 rfl (lv_room (Nat.le_of_ble_eq_true rfl)) dX9_settle_90 ⟨Nat.le_refl _, Nat.le_refl _⟩) hD hS (kSet_fst rfl) (fun H locs hP hD hS => ?_)
        have hP := kPe (es_wX14 ad ck f72v3 g72v3 (ua a72v3 31 t1_72v3.toNatClampNeg 2) (F_put 5 ((ua a72v3 31 t1_72v3.toNatClampNeg 2) 14) x2_72v3 (F_X5_digitAt f72v3 g72v3 (ua a72v3 31 t1_72v3.toNatClampNeg 2) (((4 : Int32) * x2_72v3) + (1 : Int32))))) hP
        have hD := kDe (es_wX14 ad ck f72v3 g72v3 (ua a72v3 31 t1_72v3.toNatClampNeg 2) (F_put 5 ((ua a72v3 31 t1_72v3.toNatClampNeg 2) 14) x2_72v3 (F_X5_digitAt f72v3 g72v3 (ua a72v3 31 t1_72v3.toNatClampNeg 2) (((4 : Int32) * x2_72v3) + (1 : Int32))))) hD
        refine lv_aload_n hx hb dX9_settle_93 rfl (lv_at hl 0 rfl) ?_
        refine va_get (D := D) (ci := 9) (v := .ref (ad 3)) (C := RX9) (T := TX9) (N := 4) hx hb hts hiX9 hown hK hP 2 rfl rfl 0 (by decide) hf12 (fun _ h9 => h9) rfl dX9_settle_94 ?_
        refine va_get (D := D) (ci := 3) (v := .ref (ad 15)) (C := RX3) (T := TX3) (N := 10) hx hb hts hiX3 hown hK hP 3 rfl rfl 1 (by decide) hf75 (fun _ h9 => h9) rfl dX9_settle_97 ?_
        refine lv_iload_n hx hb dX9_settle_100 rfl (lv_at hl 2 rfl) ?_
        refine lv_aload_n hx hb dX9_settle_101 rfl (lv_at hl 1 rfl) ?_
        refine lv_iconst (v := 4) hx hb dX9_settle_102 (by decide) ?_
        refine lv_iload_n hx hb dX9_settle_103 rfl (lv_at hl 2 rfl) ?_
        refine lv_imul hx hb dX9_settle_104 ?_
        refine lv_iconst (v := 2) hx hb dX9_settle_105 (by decide) ?_
        refine lv_iadd hx hb dX9_settle_106 ?_
        refine kS_i (va_runV (As := [.int (((4 : Int32) * x2_72v3) + (2 : Int32))]) (rest := [.int x2_72v3, .ref (ad 15)]) ⟨hx, hb, hml, hown, hts⟩ (c_X5_digitAt l hz D ad ck f72v3 g72v3 (us (ua a72v3 31 t1_72v3.toNatClampNeg 2) 14 (F_put 5 ((ua a72v3 31 t1_72v3.toNatClampNeg 2) 14) x2_72v3 (F_X5_digitAt f72v3 g72v3 (ua a72v3 31 t1_72v3.toNatClampNeg 2) (((4 : Int32) * x2_72v3) + (1 : Int32))))) (((4 : Int32) * x2_72v3) + (2 : Int32))) (cwV 1 hts gX9_settle_X5_digitAt rfl rfl rfl ⟨rfl, pX5_digitAt⟩ ⟨Nat.le_of_ble_eq_true rfl, Nat.le_of_ble_eq_true rfl⟩) (kR.preV (va_recv hK hP (ci := 5) (q0 := 1) rfl rfl) hP (hE.kept hS hnA)) rfl rfl hl.1 rfl (lv_room (Nat.le_of_ble_eq_true rfl)) dX9_settle_107 ⟨Nat.le_refl _, Nat.le_refl _⟩) ?_
        refine kS_w (va_runSN (As := [.ref (ad 15), .int x2_72v3, .int (F_X5_digitAt f72v3 g72v3 (us (ua a72v3 31 t1_72v3.toNatClampNeg 2) 14 (F_put 5 ((ua a72v3 31 t1_72v3.toNatClampNeg 2) 14) x2_72v3 (F_X5_digitAt f72v3 g72v3 (ua a72v3 31 t1_72v3.toNatClampNeg 2) (((4 : Int32) * x2_72v3) + (1 : Int32))))) (((4 : Int32) * x2_72v3) + (2 : Int32)))]) (rest := []) ⟨hx, hb, hml, hown, hts⟩ (c_X11_put l hz D (tX ck) (wX ad ck f72v3 g72v3 (us (ua a72v3 31 t1_72v3.toNatClampNeg 2) 14 (F_put 5 ((ua a72v3 31 t1_72v3.toNatClampNeg 2) 14) x2_72v3 (F_X5_digitAt f72v3 g72v3 (ua a72v3 31 t1_72v3.toNatClampNeg 2) (((4 : Int32) * x2_72v3) + (1 : Int32)))))) 15 2 rfl rfl (by decide) x2_72v3 (F_X5_digitAt f72v3 g72v3 (us (ua a72v3 31 t1_72v3.toNatClampNeg 2) 14 (F_put 5 ((ua a72v3 31 t1_72v3.toNatClampNeg 2) 14) x2_72v3 (F_X5_digitAt f72v3 g72v3 (ua a72v3 31 t1_72v3.toNatClampNeg 2) (((4 : Int32) * x2_72v3) + (1 : Int32))))) (((4 : Int32) * x2_72v3) + (2 : Int32)))) ⟨va_cnB 3 hts gX9_settle_X11_put_n71 rfl rfl rfl (hE.2.1 _ knX9_71) (hts (.initialized RX11) (by decide +kernel)) pX11_put ⟨Nat.le_of_ble_eq_true rfl, Nat.le_of_ble_eq_true rfl⟩, hts (.static yX11_put) (by decide +kernel), trivial⟩ (kW.preS hP (hE.kept hS hnA) hD hnA) rfl rfl hl.1 rfl (lv_room (Nat.le_of_ble_eq_true rfl)) dX9_settle_110 ⟨Nat.le_refl _, Nat.le_refl _⟩) hD hS (kSet_fst rfl) (fun H locs hP hD hS => ?_)
        have hP := kPe (es_wX15 ad ck f72v3 g72v3 (us (ua a72v3 31 t1_72v3.toNatClampNeg 2) 14 (F_put 5 ((ua a72v3 31 t1_72v3.toNatClampNeg 2) 14) x2_72v3 (F_X5_digitAt f72v3 g72v3 (ua a72v3 31 t1_72v3.toNatClampNeg 2) (((4 : Int32) * x2_72v3) + (1 : Int32))))) (F_put 5 ((us (ua a72v3 31 t1_72v3.toNatClampNeg 2) 14 (F_put 5 ((ua a72v3 31 t1_72v3.toNatClampNeg 2) 14) x2_72v3 (F_X5_digitAt f72v3 g72v3 (ua a72v3 31 t1_72v3.toNatClampNeg 2) (((4 : Int32) * x2_72v3) + (1 : Int32))))) 15) x2_72v3 (F_X5_digitAt f72v3 g72v3 (us (ua a72v3 31 t1_72v3.toNatClampNeg 2) 14 (F_put 5 ((ua a72v3 31 t1_72v3.toNatClampNeg 2) 14) x2_72v3 (F_X5_digitAt f72v3 g72v3 (ua a72v3 31 t1_72v3.toNatClampNeg 2) (((4 : Int32) * x2_72v3) + (1 : Int32))))) (((4 : Int32) * x2_72v3) + (2 : Int32))))) hP
        have hD := kDe (es_wX15 ad ck f72v3 g72v3 (us (ua a72v3 31 t1_72v3.toNatClampNeg 2) 14 (F_put 5 ((ua a72v3 31 t1_72v3.toNatClampNeg 2) 14) x2_72v3 (F_X5_digitAt f72v3 g72v3 (ua a72v3 31 t1_72v3.toNatClampNeg 2) (((4 : Int32) * x2_72v3) + (1 : Int32))))) (F_put 5 ((us (ua a72v3 31 t1_72v3.toNatClampNeg 2) 14 (F_put 5 ((ua a72v3 31 t1_72v3.toNatClampNeg 2) 14) x2_72v3 (F_X5_digitAt f72v3 g72v3 (ua a72v3 31 t1_72v3.toNatClampNeg 2) (((4 : Int32) * x2_72v3) + (1 : Int32))))) 15) x2_72v3 (F_X5_digitAt f72v3 g72v3 (us (ua a72v3 31 t1_72v3.toNatClampNeg 2) 14 (F_put 5 ((ua a72v3 31 t1_72v3.toNatClampNeg 2) 14) x2_72v3 (F_X5_digitAt f72v3 g72v3 (ua a72v3 31 t1_72v3.toNatClampNeg 2) (((4 : Int32) * x2_72v3) + (1 : Int32))))) (((4 : Int32) * x2_72v3) + (2 : Int32))))) hD
        refine lv_iinc (v := (x2_72v3 + 1)) (lv' := [(2, .int (x2_72v3 + 1)), (0, .ref (ad 2)), (1, .ref (ad 1))]) hx hb dX9_settle_113 hl (k := 2) rfl rfl (by decide) rfl (fun ls hl => ?_)
        refine lv_goto (tgt := 21) hx hb dX9_settle_116 (by decide) ?_
        have hF := Option.some.inj hF
        subst hF
        obtain ⟨r, hF, hp⟩ := hp
        exact ih21 f72v3 g72v3 (us (us (ua a72v3 31 t1_72v3.toNatClampNeg 2) 14 (F_put 5 ((ua a72v3 31 t1_72v3.toNatClampNeg 2) 14) x2_72v3 (F_X5_digitAt f72v3 g72v3 (ua a72v3 31 t1_72v3.toNatClampNeg 2) (((4 : Int32) * x2_72v3) + (1 : Int32))))) 15 (F_put 5 ((us (ua a72v3 31 t1_72v3.toNatClampNeg 2) 14 (F_put 5 ((ua a72v3 31 t1_72v3.toNatClampNeg 2) 14) x2_72v3 (F_X5_digitAt f72v3 g72v3 (ua a72v3 31 t1_72v3.toNatClampNeg 2) (((4 : Int32) * x2_72v3) + (1 : Int32))))) 15) x2_72v3 (F_X5_digitAt f72v3 g72v3 (us (ua a72v3 31 t1_72v3.toNatClampNeg 2) 14 (F_put 5 ((ua a72v3 31 t1_72v3.toNatClampNeg 2) 14) x2_72v3 (F_X5_digitAt f72v3 g72v3 (ua a72v3 31 t1_72v3.toNatClampNeg 2) (((4 : Int32) * x2_72v3) + (1 : Int32))))) (((4 : Int32) * x2_72v3) + (2 : Int32))))) _ _ (x2_72v3 + 1) ls hP hD hS (lv_sub hl [1, 2, 0] rfl) r hF hp
      have hN_72v4 : ∀ (f72v4 : Nat → Int32) (g72v4 : Nat → Int64) (a72v4 : Nat → Nat → Int32) (H : Heap) (locs : List Loc) (x2_72v4 : Int32) (t1_72v4 : Int32) (ls : Array Slot), va_P D vwCl (wX ad ck f72v4 g72v4 a72v4) H → va_D (kAd (wX ad ck f0 g0 a0)) (wX ad ck f72v4 g72v4 a72v4) → va_S (kAd (wX ad ck f0 g0 a0)) s.heap H locs → lv_has ls 4 [(0, .ref (ad 2)), (1, .ref (ad 1)), (2, .int x2_72v4)] → ∀ r : ((Int32 × ST) ⊕ ST), N_X9_settle_72v4 f72v4 g72v4 a72v4 x2_72v4 t1_72v4 = some r → (lpK (fun q21 : (Int32 × ST) => B_X9_settle_21 q21.2.1 q21.2.2.1 q21.2.2.2 q21.1) n21 (fun r => r = out)) r → W p l e (headSpec wsX9_settle ({ frames := 5, cells := 0, slots := 0, locals := 112 })).room s m [.ref (ad 2), .ref (ad 1)].toArray below meth c H locs 0 0 (MQ below (kQ D vwCl none (wX ad ck f0 g0 a0) (wX ad ck out.1 out.2.1 out.2.2)) [.ref (ad 2), .ref (ad 1)].toArray s 0 0 (kAd (wX ad ck f0 g0 a0))) (F0 m 72 ls [.ref (ad 11), .int t1_72v4, .ref (ad 31)]) := by
        intro f72v4 g72v4 a72v4 H locs x2_72v4 t1_72v4 ls hP hD hS hl r hF hp
        unfold N_X9_settle_72v4 at hF
        obtain ⟨hg16, hF⟩ := gd_s hF
        refine va_astqO hx hb hK hP hD hS 31 18 11 8 rfl rfl (hE.2.1 _ kcX8_X6) rfl rfl (inB_in hg16) dX9_settle_72 (fun H locs hP hD hS => ?_)
        have hP := kPe (ep_3 ad ck f72v4 g72v4 a72v4 t1_72v4.toNatClampNeg) hP
        have hD := kDe (ep_3 ad ck f72v4 g72v4 a72v4 t1_72v4.toNatClampNeg) hD
        refine lv_aload_n hx hb dX9_settle_73 rfl (lv_at hl 0 rfl) ?_
        refine va_get (D := D) (ci := 9) (v := .ref (ad 3)) (C := RX9) (T := TX9) (N := 4) hx hb hts hiX9 hown hK hP 2 rfl rfl 0 (by decide) hf12 (fun _ h9 => h9) rfl dX9_settle_74 ?_
        refine va_get (D := D) (ci := 3) (v := .ref (ad 14)) (C := RX3) (T := TX3) (N := 10) hx hb hts hiX3 hown hK hP 3 rfl rfl 0 (by decide) hf64 (fun _ h9 => h9) rfl dX9_settle_77 ?_
        refine lv_iload_n hx hb dX9_settle_80 rfl (lv_at hl 2 rfl) ?_
        refine lv_aload_n hx hb dX9_settle_81 rfl (lv_at hl 1 rfl) ?_
        refine lv_iconst (v := 4) hx hb dX9_settle_82 (by decide) ?_
        refine lv_iload_n hx hb dX9_settle_83 rfl (lv_at hl 2 rfl) ?_
        refine lv_imul hx hb dX9_settle_84 ?_
        refine lv_iconst (v := 1) hx hb dX9_settle_85 (by decide) ?_
        refine lv_iadd hx hb dX9_settle_86 ?_
        refine kS_i (va_runV (As := [.int (((4 : Int32) * x2_72v4) + (1 : Int32))]) (rest := [.int x2_72v4, .ref (ad 14)]) ⟨hx, hb, hml, hown, hts⟩ (c_X5_digitAt l hz D ad ck f72v4 g72v4 (ua a72v4 31 t1_72v4.toNatClampNeg 3) (((4 : Int32) * x2_72v4) + (1 : Int32))) (cwV 1 hts gX9_settle_X5_digitAt rfl rfl rfl ⟨rfl, pX5_digitAt⟩ ⟨Nat.le_of_ble_eq_true rfl, Nat.le_of_ble_eq_true rfl⟩) (kR.preV (va_recv hK hP (ci := 5) (q0 := 1) rfl rfl) hP (hE.kept hS hnA)) rfl rfl hl.1 rfl (lv_room (Nat.le_of_ble_eq_true rfl)) dX9_settle_87 ⟨Nat.le_refl _, Nat.le_refl _⟩) ?_
        refine kS_w (va_runSN (As := [.ref (ad 14), .int x2_72v4, .int (F_X5_digitAt f72v4 g72v4 (ua a72v4 31 t1_72v4.toNatClampNeg 3) (((4 : Int32) * x2_72v4) + (1 : Int32)))]) (rest := []) ⟨hx, hb, hml, hown, hts⟩ (c_X11_put l hz D (tX ck) (wX ad ck f72v4 g72v4 (ua a72v4 31 t1_72v4.toNatClampNeg 3)) 14 1 rfl rfl (by decide) x2_72v4 (F_X5_digitAt f72v4 g72v4 (ua a72v4 31 t1_72v4.toNatClampNeg 3) (((4 : Int32) * x2_72v4) + (1 : Int32)))) ⟨va_cnB 3 hts gX9_settle_X11_put_n71 rfl rfl rfl (hE.2.1 _ knX9_71) (hts (.initialized RX11) (by decide +kernel)) pX11_put ⟨Nat.le_of_ble_eq_true rfl, Nat.le_of_ble_eq_true rfl⟩, hts (.static yX11_put) (by decide +kernel), trivial⟩ (kW.preS hP (hE.kept hS hnA) hD hnA) rfl rfl hl.1 rfl (lv_room (Nat.le_of_ble_eq_true rfl)) dX9_settle_90 ⟨Nat.le_refl _, Nat.le_refl _⟩) hD hS (kSet_fst rfl) (fun H locs hP hD hS => ?_)
        have hP := kPe (es_wX14 ad ck f72v4 g72v4 (ua a72v4 31 t1_72v4.toNatClampNeg 3) (F_put 5 ((ua a72v4 31 t1_72v4.toNatClampNeg 3) 14) x2_72v4 (F_X5_digitAt f72v4 g72v4 (ua a72v4 31 t1_72v4.toNatClampNeg 3) (((4 : Int32) * x2_72v4) + (1 : Int32))))) hP
        have hD := kDe (es_wX14 ad ck f72v4 g72v4 (ua a72v4 31 t1_72v4.toNatClampNeg 3) (F_put 5 ((ua a72v4 31 t1_72v4.toNatClampNeg 3) 14) x2_72v4 (F_X5_digitAt f72v4 g72v4 (ua a72v4 31 t1_72v4.toNatClampNeg 3) (((4 : Int32) * x2_72v4) + (1 : Int32))))) hD
        refine lv_aload_n hx hb dX9_settle_93 rfl (lv_at hl 0 rfl) ?_
        refine va_get (D := D) (ci := 9) (v := .ref (ad 3)) (C := RX9) (T := TX9) (N := 4) hx hb hts hiX9 hown hK hP 2 rfl rfl 0 (by decide) hf12 (fun _ h9 => h9) rfl dX9_settle_94 ?_
        refine va_get (D := D) (ci := 3) (v := .ref (ad 15)) (C := RX3) (T := TX3) (N := 10) hx hb hts hiX3 hown hK hP 3 rfl rfl 1 (by decide) hf75 (fun _ h9 => h9) rfl dX9_settle_97 ?_
        refine lv_iload_n hx hb dX9_settle_100 rfl (lv_at hl 2 rfl) ?_
        refine lv_aload_n hx hb dX9_settle_101 rfl (lv_at hl 1 rfl) ?_
        refine lv_iconst (v := 4) hx hb dX9_settle_102 (by decide) ?_
        refine lv_iload_n hx hb dX9_settle_103 rfl (lv_at hl 2 rfl) ?_
        refine lv_imul hx hb dX9_settle_104 ?_
        refine lv_iconst (v := 2) hx hb dX9_settle_105 (by decide) ?_
        refine lv_iadd hx hb dX9_settle_106 ?_
        refine kS_i (va_runV (As := [.int (((4 : Int32) * x2_72v4) + (2 : Int32))]) (rest := [.int x2_72v4, .ref (ad 15)]) ⟨hx, hb, hml, hown, hts⟩ (c_X5_digitAt l hz D ad ck f72v4 g72v4 (us (ua a72v4 31 t1_72v4.toNatClampNeg 3) 14 (F_put 5 ((ua a72v4 31 t1_72v4.toNatClampNeg 3) 14) x2_72v4 (F_X5_digitAt f72v4 g72v4 (ua a72v4 31 t1_72v4.toNatClampNeg 3) (((4 : Int32) * x2_72v4) + (1 : Int32))))) (((4 : Int32) * x2_72v4) + (2 : Int32))) (cwV 1 hts gX9_settle_X5_digitAt rfl rfl rfl ⟨rfl, pX5_digitAt⟩ ⟨Nat.le_of_ble_eq_true rfl, Nat.le_of_ble_eq_true rfl⟩) (kR.preV (va_recv hK hP (ci := 5) (q0 := 1) rfl rfl) hP (hE.kept hS hnA)) rfl rfl hl.1 rfl (lv_room (Nat.le_of_ble_eq_true rfl)) dX9_settle_107 ⟨Nat.le_refl _, Nat.le_refl _⟩) ?_
        refine kS_w (va_runSN (As := [.ref (ad 15), .int x2_72v4, .int (F_X5_digitAt f72v4 g72v4 (us (ua a72v4 31 t1_72v4.toNatClampNeg 3) 14 (F_put 5 ((ua a72v4 31 t1_72v4.toNatClampNeg 3) 14) x2_72v4 (F_X5_digitAt f72v4 g72v4 (ua a72v4 31 t1_72v4.toNatClampNeg 3) (((4 : Int32) * x2_72v4) + (1 : Int32))))) (((4 : Int32) * x2_72v4) + (2 : Int32)))]) (rest := []) ⟨hx, hb, hml, hown, hts⟩ (c_X11_put l hz D (tX ck) (wX ad ck f72v4 g72v4 (us (ua a72v4 31 t1_72v4.toNatClampNeg 3) 14 (F_put 5 ((ua a72v4 31 t1_72v4.toNatClampNeg 3) 14) x2_72v4 (F_X5_digitAt f72v4 g72v4 (ua a72v4 31 t1_72v4.toNatClampNeg 3) (((4 : Int32) * x2_72v4) + (1 : Int32)))))) 15 2 rfl rfl (by decide) x2_72v4 (F_X5_digitAt f72v4 g72v4 (us (ua a72v4 31 t1_72v4.toNatClampNeg 3) 14 (F_put 5 ((ua a72v4 31 t1_72v4.toNatClampNeg 3) 14) x2_72v4 (F_X5_digitAt f72v4 g72v4 (ua a72v4 31 t1_72v4.toNatClampNeg 3) (((4 : Int32) * x2_72v4) + (1 : Int32))))) (((4 : Int32) * x2_72v4) + (2 : Int32)))) ⟨va_cnB 3 hts gX9_settle_X11_put_n71 rfl rfl rfl (hE.2.1 _ knX9_71) (hts (.initialized RX11) (by decide +kernel)) pX11_put ⟨Nat.le_of_ble_eq_true rfl, Nat.le_of_ble_eq_true rfl⟩, hts (.static yX11_put) (by decide +kernel), trivial⟩ (kW.preS hP (hE.kept hS hnA) hD hnA) rfl rfl hl.1 rfl (lv_room (Nat.le_of_ble_eq_true rfl)) dX9_settle_110 ⟨Nat.le_refl _, Nat.le_refl _⟩) hD hS (kSet_fst rfl) (fun H locs hP hD hS => ?_)
        have hP := kPe (es_wX15 ad ck f72v4 g72v4 (us (ua a72v4 31 t1_72v4.toNatClampNeg 3) 14 (F_put 5 ((ua a72v4 31 t1_72v4.toNatClampNeg 3) 14) x2_72v4 (F_X5_digitAt f72v4 g72v4 (ua a72v4 31 t1_72v4.toNatClampNeg 3) (((4 : Int32) * x2_72v4) + (1 : Int32))))) (F_put 5 ((us (ua a72v4 31 t1_72v4.toNatClampNeg 3) 14 (F_put 5 ((ua a72v4 31 t1_72v4.toNatClampNeg 3) 14) x2_72v4 (F_X5_digitAt f72v4 g72v4 (ua a72v4 31 t1_72v4.toNatClampNeg 3) (((4 : Int32) * x2_72v4) + (1 : Int32))))) 15) x2_72v4 (F_X5_digitAt f72v4 g72v4 (us (ua a72v4 31 t1_72v4.toNatClampNeg 3) 14 (F_put 5 ((ua a72v4 31 t1_72v4.toNatClampNeg 3) 14) x2_72v4 (F_X5_digitAt f72v4 g72v4 (ua a72v4 31 t1_72v4.toNatClampNeg 3) (((4 : Int32) * x2_72v4) + (1 : Int32))))) (((4 : Int32) * x2_72v4) + (2 : Int32))))) hP
        have hD := kDe (es_wX15 ad ck f72v4 g72v4 (us (ua a72v4 31 t1_72v4.toNatClampNeg 3) 14 (F_put 5 ((ua a72v4 31 t1_72v4.toNatClampNeg 3) 14) x2_72v4 (F_X5_digitAt f72v4 g72v4 (ua a72v4 31 t1_72v4.toNatClampNeg 3) (((4 : Int32) * x2_72v4) + (1 : Int32))))) (F_put 5 ((us (ua a72v4 31 t1_72v4.toNatClampNeg 3) 14 (F_put 5 ((ua a72v4 31 t1_72v4.toNatClampNeg 3) 14) x2_72v4 (F_X5_digitAt f72v4 g72v4 (ua a72v4 31 t1_72v4.toNatClampNeg 3) (((4 : Int32) * x2_72v4) + (1 : Int32))))) 15) x2_72v4 (F_X5_digitAt f72v4 g72v4 (us (ua a72v4 31 t1_72v4.toNatClampNeg 3) 14 (F_put 5 ((ua a72v4 31 t1_72v4.toNatClampNeg 3) 14) x2_72v4 (F_X5_digitAt f72v4 g72v4 (ua a72v4 31 t1_72v4.toNatClampNeg 3) (((4 : Int32) * x2_72v4) + (1 : Int32))))) (((4 : Int32) * x2_72v4) + (2 : Int32))))) hD
        refine lv_iinc (v := (x2_72v4 + 1)) (lv' := [(2, .int (x2_72v4 + 1)), (0, .ref (ad 2)), (1, .ref (ad 1))]) hx hb dX9_settle_113 hl (k := 2) rfl rfl (by decide) rfl (fun ls hl => ?_)
        refine lv_goto (tgt := 21) hx hb dX9_settle_116 (by decide) ?_
        have hF := Option.some.inj hF
        subst hF
        obtain ⟨r, hF, hp⟩ := hp
        exact ih21 f72v4 g72v4 (us (us (ua a72v4 31 t1_72v4.toNatClampNeg 3) 14 (F_put 5 ((ua a72v4 31 t1_72v4.toNatClampNeg 3) 14) x2_72v4 (F_X5_digitAt f72v4 g72v4 (ua a72v4 31 t1_72v4.toNatClampNeg 3) (((4 : Int32) * x2_72v4) + (1 : Int32))))) 15 (F_put 5 ((us (ua a72v4 31 t1_72v4.toNatClampNeg 3) 14 (F_put 5 ((ua a72v4 31 t1_72v4.toNatClampNeg 3) 14) x2_72v4 (F_X5_digitAt f72v4 g72v4 (ua a72v4 31 t1_72v4.toNatClampNeg 3) (((4 : Int32) * x2_72v4) + (1 : Int32))))) 15) x2_72v4 (F_X5_digitAt f72v4 g72v4 (us (ua a72v4 31 t1_72v4.toNatClampNeg 3) 14 (F_put 5 ((ua a72v4 31 t1_72v4.toNatClampNeg 3) 14) x2_72v4 (F_X5_digitAt f72v4 g72v4 (ua a72v4 31 t1_72v4.toNatClampNeg 3) (((4 : Int32) * x2_72v4) + (1 : Int32))))) (((4 : Int32) * x2_72v4) + (2 : Int32))))) _ _ (x2_72v4 + 1) ls hP hD hS (lv_sub hl [1, 2, 0] rfl) r hF hp
      have hN_72v5 : ∀ (f72v5 : Nat → Int32) (g72v5 : Nat → Int64) (a72v5 : Nat → Nat → Int32) (H : Heap) (locs : List Loc) (x2_72v5 : Int32) (t1_72v5 : Int32) (ls : Array Slot), va_P D vwCl (wX ad ck f72v5 g72v5 a72v5) H → va_D (kAd (wX ad ck f0 g0 a0)) (wX ad ck f72v5 g72v5 a72v5) → va_S (kAd (wX ad ck f0 g0 a0)) s.heap H locs → lv_has ls 4 [(0, .ref (ad 2)), (1, .ref (ad 1)), (2, .int x2_72v5)] → ∀ r : ((Int32 × ST) ⊕ ST), N_X9_settle_72v5 f72v5 g72v5 a72v5 x2_72v5 t1_72v5 = some r → (lpK (fun q21 : (Int32 × ST) => B_X9_settle_21 q21.2.1 q21.2.2.1 q21.2.2.2 q21.1) n21 (fun r => r = out)) r → W p l e (headSpec wsX9_settle ({ frames := 5, cells := 0, slots := 0, locals := 112 })).room s m [.ref (ad 2), .ref (ad 1)].toArray below meth c H locs 0 0 (MQ below (kQ D vwCl none (wX ad ck f0 g0 a0) (wX ad ck out.1 out.2.1 out.2.2)) [.ref (ad 2), .ref (ad 1)].toArray s 0 0 (kAd (wX ad ck f0 g0 a0))) (F0 m 72 ls [.ref (ad 12), .int t1_72v5, .ref (ad 31)]) := by
        intro f72v5 g72v5 a72v5 H locs x2_72v5 t1_72v5 ls hP hD hS hl r hF hp
        unfold N_X9_settle_72v5 at hF
        obtain ⟨hg18, hF⟩ := gd_s hF
        refine va_astqO hx hb hK hP hD hS 31 18 12 10 rfl rfl (hE.2.1 _ kcX10_X6) rfl rfl (inB_in hg18) dX9_settle_72 (fun H locs hP hD hS => ?_)
        have hP := kPe (ep_4 ad ck f72v5 g72v5 a72v5 t1_72v5.toNatClampNeg) hP
        have hD := kDe (ep_4 ad ck f72v5 g72v5 a72v5 t1_72v5.toNatClampNeg) hD
        refine lv_aload_n hx hb dX9_settle_73 rfl (lv_at hl 0 rfl) ?_
        refine va_get (D := D) (ci := 9) (v := .ref (ad 3)) (C := RX9) (T := TX9) (N := 4) hx hb hts hiX9 hown hK hP 2 rfl rfl 0 (by decide) hf12 (fun _ h9 => h9) rfl dX9_settle_74 ?_
        refine va_get (D := D) (ci := 3) (v := .ref (ad 14)) (C := RX3) (T := TX3) (N := 10) hx hb hts hiX3 hown hK hP 3 rfl rfl 0 (by decide) hf64 (fun _ h9 => h9) rfl dX9_settle_77 ?_
        refine lv_iload_n hx hb dX9_settle_80 rfl (lv_at hl 2 rfl) ?_
        refine lv_aload_n hx hb dX9_settle_81 rfl (lv_at hl 1 rfl) ?_
        refine lv_iconst (v := 4) hx hb dX9_settle_82 (by decide) ?_
        refine lv_iload_n hx hb dX9_settle_83 rfl (lv_at hl 2 rfl) ?_
        refine lv_imul hx hb dX9_settle_84 ?_
        refine lv_iconst (v := 1) hx hb dX9_settle_85 (by decide) ?_
        refine lv_iadd hx hb dX9_settle_86 ?_
        refine kS_i (va_runV (As := [.int (((4 : Int32) * x2_72v5) + (1 : Int32))]) (rest := [.int x2_72v5, .ref (ad 14)]) ⟨hx, hb, hml, hown, hts⟩ (c_X5_digitAt l hz D ad ck f72v5 g72v5 (ua a72v5 31 t1_72v5.toNatClampNeg 4) (((4 : Int32) * x2_72v5) + (1 : Int32))) (cwV 1 hts gX9_settle_X5_digitAt rfl rfl rfl ⟨rfl, pX5_digitAt⟩ ⟨Nat.le_of_ble_eq_true rfl, Nat.le_of_ble_eq_true rfl⟩) (kR.preV (va_recv hK hP (ci := 5) (q0 := 1) rfl rfl) hP (hE.kept hS hnA)) rfl rfl hl.1 rfl (lv_room (Nat.le_of_ble_eq_true rfl)) dX9_settle_87 ⟨Nat.le_refl _, Nat.le_refl _⟩) ?_
        refine kS_w (va_runSN (As := [.ref (ad 14), .int x2_72v5, .int (F_X5_digitAt f72v5 g72v5 (ua a72v5 31 t1_72v5.toNatClampNeg 4) (((4 : Int32) * x2_72v5) + (1 : Int32)))]) (rest := []) ⟨hx, hb, hml, hown, hts⟩ (c_X11_put l hz D (tX ck) (wX ad ck f72v5 g72v5 (ua a72v5 31 t1_72v5.toNatClampNeg 4)) 14 1 rfl rfl (by decide) x2_72v5 (F_X5_digitAt f72v5 g72v5 (ua a72v5 31 t1_72v5.toNatClampNeg 4) (((4 : Int32) * x2_72v5) + (1 : Int32)))) ⟨va_cnB 3 hts gX9_settle_X11_put_n71 rfl rfl rfl (hE.2.1 _ knX9_71) (hts (.initialized RX11) (by decide +kernel)) pX11_put ⟨Nat.le_of_ble_eq_true rfl, Nat.le_of_ble_eq_true rfl⟩, hts (.static yX11_put) (by decide +kernel), trivial⟩ (kW.preS hP (hE.kept hS hnA) hD hnA) rfl rfl hl.1 rfl (lv_room (Nat.le_of_ble_eq_true rfl)) dX9_settle_90 ⟨Nat.le_refl _, Nat.le_refl _⟩) hD hS (kSet_fst rfl) (fun H locs hP hD hS => ?_)
        have hP := kPe (es_wX14 ad ck f72v5 g72v5 (ua a72v5 31 t1_72v5.toNatClampNeg 4) (F_put 5 ((ua a72v5 31 t1_72v5.toNatClampNeg 4) 14) x2_72v5 (F_X5_digitAt f72v5 g72v5 (ua a72v5 31 t1_72v5.toNatClampNeg 4) (((4 : Int32) * x2_72v5) + (1 : Int32))))) hP
        have hD := kDe (es_wX14 ad ck f72v5 g72v5 (ua a72v5 31 t1_72v5.toNatClampNeg 4) (F_put 5 ((ua a72v5 31 t1_72v5.toNatClampNeg 4) 14) x2_72v5 (F_X5_digitAt f72v5 g72v5 (ua a72v5 31 t1_72v5.toNatClampNeg 4) (((4 : Int32) * x2_72v5) + (1 : Int32))))) hD
        refine lv_aload_n hx hb dX9_settle_93 rfl (lv_at hl 0 rfl) ?_
        refine va_get (D := D) (ci := 9) (v := .ref (ad 3)) (C := RX9) (T := TX9) (N := 4) hx hb hts hiX9 hown hK hP 2 rfl rfl 0 (by decide) hf12 (fun _ h9 => h9) rfl dX9_settle_94 ?_
        refine va_get (D := D) (ci := 3) (v := .ref (ad 15)) (C := RX3) (T := TX3) (N := 10) hx hb hts hiX3 hown hK hP 3 rfl rfl 1 (by decide) hf75 (fun _ h9 => h9) rfl dX9_settle_97 ?_
        refine lv_iload_n hx hb dX9_settle_100 rfl (lv_at hl 2 rfl) ?_
        refine lv_aload_n hx hb dX9_settle_101 rfl (lv_at hl 1 rfl) ?_
        refine lv_iconst (v := 4) hx hb dX9_settle_102 (by decide) ?_
        refine lv_iload_n hx hb dX9_settle_103 rfl (lv_at hl 2 rfl) ?_
        refine lv_imul hx hb dX9_settle_104 ?_
        refine lv_iconst (v := 2) hx hb dX9_settle_105 (by decide) ?_
        refine lv_iadd hx hb dX9_settle_106 ?_
        refine kS_i (va_runV (As := [.int (((4 : Int32) * x2_72v5) + (2 : Int32))]) (rest := [.int x2_72v5, .ref (ad 15)]) ⟨hx, hb, hml, hown, hts⟩ (c_X5_digitAt l hz D ad ck f72v5 g72v5 (us (ua a72v5 31 t1_72v5.toNatClampNeg 4) 14 (F_put 5 ((ua a72v5 31 t1_72v5.toNatClampNeg 4) 14) x2_72v5 (F_X5_digitAt f72v5 g72v5 (ua a72v5 31 t1_72v5.toNatClampNeg 4) (((4 : Int32) * x2_72v5) + (1 : Int32))))) (((4 : Int32) * x2_72v5) + (2 : Int32))) (cwV 1 hts gX9_settle_X5_digitAt rfl rfl rfl ⟨rfl, pX5_digitAt⟩ ⟨Nat.le_of_ble_eq_true rfl, Nat.le_of_ble_eq_true rfl⟩) (kR.preV (va_recv hK hP (ci := 5) (q0 := 1) rfl rfl) hP (hE.kept hS hnA)) rfl rfl hl.1 rfl (lv_room (Nat.le_of_ble_eq_true rfl)) dX9_settle_107 ⟨Nat.le_refl _, Nat.le_refl _⟩) ?_
        refine kS_w (va_runSN (As := [.ref (ad 15), .int x2_72v5, .int (F_X5_digitAt f72v5 g72v5 (us (ua a72v5 31 t1_72v5.toNatClampNeg 4) 14 (F_put 5 ((ua a72v5 31 t1_72v5.toNatClampNeg 4) 14) x2_72v5 (F_X5_digitAt f72v5 g72v5 (ua a72v5 31 t1_72v5.toNatClampNeg 4) (((4 : Int32) * x2_72v5) + (1 : Int32))))) (((4 : Int32) * x2_72v5) + (2 : Int32)))]) (rest := []) ⟨hx, hb, hml, hown, hts⟩ (c_X11_put l hz D (tX ck) (wX ad ck f72v5 g72v5 (us (ua a72v5 31 t1_72v5.toNatClampNeg 4) 14 (F_put 5 ((ua a72v5 31 t1_72v5.toNatClampNeg 4) 14) x2_72v5 (F_X5_digitAt f72v5 g72v5 (ua a72v5 31 t1_72v5.toNatClampNeg 4) (((4 : Int32) * x2_72v5) + (1 : Int32)))))) 15 2 rfl rfl (by decide) x2_72v5 (F_X5_digitAt f72v5 g72v5 (us (ua a72v5 31 t1_72v5.toNatClampNeg 4) 14 (F_put 5 ((ua a72v5 31 t1_72v5.toNatClampNeg 4) 14) x2_72v5 (F_X5_digitAt f72v5 g72v5 (ua a72v5 31 t1_72v5.toNatClampNeg 4) (((4 : Int32) * x2_72v5) + (1 : Int32))))) (((4 : Int32) * x2_72v5) + (2 : Int32)))) ⟨va_cnB 3 hts gX9_settle_X11_put_n71 rfl rfl rfl (hE.2.1 _ knX9_71) (hts (.initialized RX11) (by decide +kernel)) pX11_put ⟨Nat.le_of_ble_eq_true rfl, Nat.le_of_ble_eq_true rfl⟩, hts (.static yX11_put) (by decide +kernel), trivial⟩ (kW.preS hP (hE.kept hS hnA) hD hnA) rfl rfl hl.1 rfl (lv_room (Nat.le_of_ble_eq_true rfl)) dX9_settle_110 ⟨Nat.le_refl _, Nat.le_refl _⟩) hD hS (kSet_fst rfl) (fun H locs hP hD hS => ?_)
        have hP := kPe (es_wX15 ad ck f72v5 g72v5 (us (ua a72v5 31 t1_72v5.toNatClampNeg 4) 14 (F_put 5 ((ua a72v5 31 t1_72v5.toNatClampNeg 4) 14) x2_72v5 (F_X5_digitAt f72v5 g72v5 (ua a72v5 31 t1_72v5.toNatClampNeg 4) (((4 : Int32) * x2_72v5) + (1 : Int32))))) (F_put 5 ((us (ua a72v5 31 t1_72v5.toNatClampNeg 4) 14 (F_put 5 ((ua a72v5 31 t1_72v5.toNatClampNeg 4) 14) x2_72v5 (F_X5_digitAt f72v5 g72v5 (ua a72v5 31 t1_72v5.toNatClampNeg 4) (((4 : Int32) * x2_72v5) + (1 : Int32))))) 15) x2_72v5 (F_X5_digitAt f72v5 g72v5 (us (ua a72v5 31 t1_72v5.toNatClampNeg 4) 14 (F_put 5 ((ua a72v5 31 t1_72v5.toNatClampNeg 4) 14) x2_72v5 (F_X5_digitAt f72v5 g72v5 (ua a72v5 31 t1_72v5.toNatClampNeg 4) (((4 : Int32) * x2_72v5) + (1 : Int32))))) (((4 : Int32) * x2_72v5) + (2 : Int32))))) hP
        have hD := kDe (es_wX15 ad ck f72v5 g72v5 (us (ua a72v5 31 t1_72v5.toNatClampNeg 4) 14 (F_put 5 ((ua a72v5 31 t1_72v5.toNatClampNeg 4) 14) x2_72v5 (F_X5_digitAt f72v5 g72v5 (ua a72v5 31 t1_72v5.toNatClampNeg 4) (((4 : Int32) * x2_72v5) + (1 : Int32))))) (F_put 5 ((us (ua a72v5 31 t1_72v5.toNatClampNeg 4) 14 (F_put 5 ((ua a72v5 31 t1_72v5.toNatClampNeg 4) 14) x2_72v5 (F_X5_digitAt f72v5 g72v5 (ua a72v5 31 t1_72v5.toNatClampNeg 4) (((4 : Int32) * x2_72v5) + (1 : Int32))))) 15) x2_72v5 (F_X5_digitAt f72v5 g72v5 (us (ua a72v5 31 t1_72v5.toNatClampNeg 4) 14 (F_put 5 ((ua a72v5 31 t1_72v5.toNatClampNeg 4) 14) x2_72v5 (F_X5_digitAt f72v5 g72v5 (ua a72v5 31 t1_72v5.toNatClampNeg 4) (((4 : Int32) * x2_72v5) + (1 : Int32))))) (((4 : Int32) * x2_72v5) + (2 : Int32))))) hD
        refine lv_iinc (v := (x2_72v5 + 1)) (lv' := [(2, .int (x2_72v5 + 1)), (0, .ref (ad 2)), (1, .ref (ad 1))]) hx hb dX9_settle_113 hl (k := 2) rfl rfl (by decide) rfl (fun ls hl => ?_)
        refine lv_goto (tgt := 21) hx hb dX9_settle_116 (by decide) ?_
        have hF := Option.some.inj hF
        subst hF
        obtain ⟨r, hF, hp⟩ := hp
        exact ih21 f72v5 g72v5 (us (us (ua a72v5 31 t1_72v5.toNatClampNeg 4) 14 (F_put 5 ((ua a72v5 31 t1_72v5.toNatClampNeg 4) 14) x2_72v5 (F_X5_digitAt f72v5 g72v5 (ua a72v5 31 t1_72v5.toNatClampNeg 4) (((4 : Int32) * x2_72v5) + (1 : Int32))))) 15 (F_put 5 ((us (ua a72v5 31 t1_72v5.toNatClampNeg 4) 14 (F_put 5 ((ua a72v5 31 t1_72v5.toNatClampNeg 4) 14) x2_72v5 (F_X5_digitAt f72v5 g72v5 (ua a72v5 31 t1_72v5.toNatClampNeg 4) (((4 : Int32) * x2_72v5) + (1 : Int32))))) 15) x2_72v5 (F_X5_digitAt f72v5 g72v5 (us (ua a72v5 31 t1_72v5.toNatClampNeg 4) 14 (F_put 5 ((ua a72v5 31 t1_72v5.toNatClampNeg 4) 14) x2_72v5 (F_X5_digitAt f72v5 g72v5 (ua a72v5 31 t1_72v5.toNatClampNeg 4) (((4 : Int32) * x2_72v5) + (1 : Int32))))) (((4 : Int32) * x2_72v5) + (2 : Int32))))) _ _ (x2_72v5 + 1) ls hP hD hS (lv_sub hl [1, 2, 0] rfl) r hF hp
      unfold B_X9_settle_21 at hF
      refine lv_iload_n hx hb dX9_settle_21 rfl (lv_at hl 2 rfl) ?_
      refine lv_aload_n hx hb dX9_settle_22 rfl (lv_at hl 0 rfl) ?_
      refine va_get (D := D) (ci := 9) (v := .int (f21 5)) (C := RX9) (T := TX9) (N := 4) hx hb hts hiX9 hown hK hP 2 rfl rfl 3 (by decide) hf56 (fun _ h9 => h9) rfl dX9_settle_23 ?_
      refine lv_icmp_ge (tgt := 119) hx hb dX9_settle_26 (by decide) (fun hc2 => ?_) (fun hc2 => ?_)
      · have hF := it_p hc2 hF
        obtain ⟨r, hF1, hr0⟩ := mp_s hF
        clear hF
        subst hr0
        have hF := hF1
        clear hF1
        have hp : (fun r => r = out) r := hp
        have hF := (Option.some.inj hF).trans hp
        subst hF
        exact W.vret hx hb hr (fun t ht hW => ⟨rfl, by rw [ht]; exact hP, hS.F ht⟩) hS.2.2 dX9_settle_119
      · have hF := it_n hc2 hF
        refine lv_iload_n hx hb dX9_settle_29 rfl (lv_at hl 2 rfl) ?_
        refine lv_aload_n hx hb dX9_settle_30 rfl (lv_at hl 0 rfl) ?_
        refine va_get (D := D) (ci := 9) (v := .ref (ad 31)) (C := RX9) (T := TX9) (N := 4) hx hb hts hiX9 hown hK hP 2 rfl rfl 2 (by decide) hf39 (fun _ h9 => h9) rfl dX9_settle_31 ?_
        refine va_alen hx hb hK hP 31 18 rfl rfl (v := 5) rfl dX9_settle_34 ?_
        refine lv_icmp_ge (tgt := 119) hx hb dX9_settle_35 (by decide) (fun hc3 => ?_) (fun hc3 => ?_)
        · have hF := it_p hc3 hF
          obtain ⟨r, hF1, hr0⟩ := mp_s hF
          clear hF
          subst hr0
          have hF := hF1
          clear hF1
          have hp : (fun r => r = out) r := hp
          have hF := (Option.some.inj hF).trans hp
          subst hF
          exact W.vret hx hb hr (fun t ht hW => ⟨rfl, by rw [ht]; exact hP, hS.F ht⟩) hS.2.2 dX9_settle_119
        · have hF := it_n hc3 hF
          refine lv_aload_n hx hb dX9_settle_38 rfl (lv_at hl 1 rfl) ?_
          refine lv_iload_n hx hb dX9_settle_39 rfl (lv_at hl 2 rfl) ?_
          obtain ⟨r4, he4, hF⟩ := bd_s hF
          refine kS_i (va_runV (As := [.int x2_21]) (rest := []) ⟨hx, hb, hml, hown, hts⟩ (c_X5_kindAt l hz D ad ck f21 g21 a21 x2_21 r4 he4) (cwV 1 hts gX9_settle_X5_kindAt rfl rfl rfl ⟨rfl, pX5_kindAt⟩ ⟨Nat.le_of_ble_eq_true rfl, Nat.le_of_ble_eq_true rfl⟩) (kR.preV (va_recv hK hP (ci := 5) (q0 := 1) rfl rfl) hP (hE.kept hS hnA)) rfl rfl hl.1 rfl (lv_room (Nat.le_of_ble_eq_true rfl)) dX9_settle_40 ⟨Nat.le_refl _, Nat.le_refl _⟩) ?_
          refine lv_istore_n (lv' := [(3, .int r4), (0, .ref (ad 2)), (1, .ref (ad 1)), (2, .int x2_21)]) hx hb dX9_settle_43 rfl hl (by decide) rfl (fun ls hl => ?_)
          refine lv_aload_n hx hb dX9_settle_44 rfl (lv_at hl 1 rfl) ?_
          refine va_get (D := D) (ci := 9) (v := .ref (ad 31)) (C := RX9) (T := TX9) (N := 4) hx hb hts hiX9 hown hK hP 2 rfl rfl 2 (by decide) hf39 (fun _ h9 => h9) rfl dX9_settle_45 ?_
          refine lv_iload_n hx hb dX9_settle_48 rfl (lv_at hl 3 rfl) ?_
          refine lv_iload_n hx hb dX9_settle_49 rfl (lv_at hl 0 rfl) ?_
          refine lv_if_lt (tgt := 71) hx hb dX9_settle_50 (by decide) (fun hc5 => ?_) (fun hc5 => ?_)
          · have hF := it_p hc5 hF
            exact hN_71 f21 g21 a21 _ _ x2_21 x2_21 ls hP hD hS (lv_sub hl [1, 2, 3] rfl) _ hF hp
          · have hF := it_n hc5 hF
            refine lv_iload_n hx hb dX9_settle_53 rfl (lv_at hl 0 rfl) ?_
            refine lv_aload_n hx hb dX9_settle_54 rfl (lv_at hl 1 rfl) ?_
            refine va_get (D := D) (ci := 9) (v := .ref (ad 30)) (C := RX9) (T := TX9) (N := 4) hx hb hts hiX9 hown hK hP 2 rfl rfl 1 (by decide) hf35 (fun _ h9 => h9) rfl dX9_settle_55 ?_
            refine va_alen hx hb hK hP 30 17 rfl rfl (v := 5) rfl dX9_settle_58 ?_
            refine lv_icmp_ge (tgt := 71) hx hb dX9_settle_59 (by decide) (fun hc7 => ?_) (fun hc7 => ?_)
            · have hF := it_p hc7 hF
              exact hN_71 f21 g21 a21 _ _ x2_21 x2_21 ls hP hD hS (lv_sub hl [1, 2, 3] rfl) _ hF hp
            · have hF := it_n hc7 hF
              refine lv_aload_n hx hb dX9_settle_62 rfl (lv_at hl 1 rfl) ?_
              refine va_get (D := D) (ci := 9) (v := .ref (ad 30)) (C := RX9) (T := TX9) (N := 4) hx hb hts hiX9 hown hK hP 2 rfl rfl 1 (by decide) hf35 (fun _ h9 => h9) rfl dX9_settle_63 ?_
              refine lv_iload_n hx hb dX9_settle_66 rfl (lv_at hl 0 rfl) ?_
              obtain ⟨hg8, hF⟩ := gd_s hF
              refine va_aldq hx hb hK hP 30 17 rfl rfl (inB_in hg8) dX9_settle_67 ?_
              by_cases hc9 : r4 = 0
              · have hF := it_p hc9 hF
                rw [kkin_0 ad hc9]
                refine lv_goto (tgt := 72) hx hb dX9_settle_68 (by decide) ?_
                exact hN_72v1 f21 g21 a21 _ _ x2_21 x2_21 ls hP hD hS (lv_sub hl [1, 2, 3] rfl) _ hF hp
              have hF := it_n hc9 hF
              by_cases hc11 : r4 = 1
              · have hF := it_p hc11 hF
                rw [kkin_1 ad hc11]
                refine lv_goto (tgt := 72) hx hb dX9_settle_68 (by decide) ?_
                exact hN_72v2 f21 g21 a21 _ _ x2_21 x2_21 ls hP hD hS (lv_sub hl [1, 2, 3] rfl) _ hF hp
              have hF := it_n hc11 hF
              by_cases hc13 : r4 = 2
              · have hF := it_p hc13 hF
                rw [kkin_2 ad hc13]
                refine lv_goto (tgt := 72) hx hb dX9_settle_68 (by decide) ?_
                exact hN_72v3 f21 g21 a21 _ _ x2_21 x2_21 ls hP hD hS (lv_sub hl [1, 2, 3] rfl) _ hF hp
              have hF := it_n hc13 hF
              by_cases hc15 : r4 = 3
              · have hF := it_p hc15 hF
                rw [kkin_3 ad hc15]
                refine lv_goto (tgt := 72) hx hb dX9_settle_68 (by decide) ?_
                exact hN_72v4 f21 g21 a21 _ _ x2_21 x2_21 ls hP hD hS (lv_sub hl [1, 2, 3] rfl) _ hF hp
              have hF := it_n hc15 hF
              by_cases hc17 : r4 = 4
              · have hF := it_p hc17 hF
                rw [kkin_4 ad hc17]
                refine lv_goto (tgt := 72) hx hb dX9_settle_68 (by decide) ?_
                exact hN_72v5 f21 g21 a21 _ _ x2_21 x2_21 ls hP hD hS (lv_sub hl [1, 2, 3] rfl) _ hF hp
              have hF := it_n hc17 hF
              cases hF
  have hl := lv_entry ([.ref (ad 2), .ref (ad 1)]) (n := 4) (Nat.le_of_ble_eq_true rfl)
  rw [lg_entry_eq]
  generalize (lg_sl ([.ref (ad 2), .ref (ad 1)]) ++ List.replicate (4 - (lg_sl ([.ref (ad 2), .ref (ad 1)])).length) Slot.unset).toArray = ls at hl ⊢
  have hl : lv_has ls 4 [(0, .ref (ad 2)), (1, .ref (ad 1))] := hl
  obtain ⟨r, hF, hp⟩ : ∃ r, F_X9_settle f0 g0 a0 = some r ∧ r = out := ⟨out, hF, rfl⟩
  unfold F_X9_settle at hF
  refine lv_aload_n hx hb dX9_settle_0 rfl (lv_at hl 0 rfl) ?_
  refine va_get (D := D) (ci := 9) (v := .ref (ad 3)) (C := RX9) (T := TX9) (N := 4) hx hb hts hiX9 hown hK hP 2 rfl rfl 0 (by decide) hf12 (fun _ h9 => h9) rfl dX9_settle_1 ?_
  obtain ⟨r1, he1, hF⟩ := bd_s hF
  refine kS_w (va_runV (As := []) (rest := []) ⟨hx, hb, hml, hown, hts⟩ (c_X3_clear l hz D ad ck f0 g0 a0 r1 he1) (cwV 0 hts gX9_settle_X3_clear rfl rfl rfl ⟨rfl, pX3_clear⟩ ⟨Nat.le_of_ble_eq_true rfl, Nat.le_of_ble_eq_true rfl⟩) (kW.preV (va_recv hK hP (ci := 3) (q0 := 3) rfl rfl) hP (hE.kept hS hnA) hD hnA) rfl rfl hl.1 rfl (lv_room (Nat.le_of_ble_eq_true rfl)) dX9_settle_4 ⟨Nat.le_refl _, Nat.le_refl _⟩) hD hS rfl (fun H locs hP hD hS => ?_)
  refine lv_aload_n hx hb dX9_settle_7 rfl (lv_at hl 0 rfl) ?_
  refine lv_aload_n hx hb dX9_settle_8 rfl (lv_at hl 1 rfl) ?_
  refine kS_i (va_runV (As := []) (rest := [.ref (ad 2)]) ⟨hx, hb, hml, hown, hts⟩ (c_X5_people l hz D ad ck r1.1 r1.2.1 r1.2.2) (cwV 0 hts gX9_settle_X5_people rfl rfl rfl ⟨rfl, pX5_people⟩ ⟨Nat.le_of_ble_eq_true rfl, Nat.le_of_ble_eq_true rfl⟩) (kR.preV (va_recv hK hP (ci := 5) (q0 := 1) rfl rfl) hP (hE.kept hS hnA)) rfl rfl hl.1 rfl (lv_room (Nat.le_of_ble_eq_true rfl)) dX9_settle_9 ⟨Nat.le_refl _, Nat.le_refl _⟩) ?_
  refine lv_iconst (v := 5) hx hb dX9_settle_12 (by decide) ?_
  refine va_mmin hx hb (hml.trans hl.1.symm) hown (hts (.methodLink RX9 50 Lib.Math.min.name) (by decide +kernel)) (hts (.static Lib.Math.min.name) (by decide +kernel)) (hts (.initialized "java/lang/Math") (by decide +kernel)) (hts (.code Lib.Math.min.name Lib.Math.min.code 2 (some .int)) (by decide +kernel)) (Nat.le_of_ble_eq_true rfl) (Nat.le_of_ble_eq_true rfl) (Nat.le_refl _) (Nat.le_refl _) dX9_settle_13 ?_
  refine va_put (D := D) (ci := 9) (v := .int (if (5 : Int32) < (F_X5_people r1.1 r1.2.1 r1.2.2) then (5 : Int32) else (F_X5_people r1.1 r1.2.1 r1.2.2))) (ty := .int) (C := RX9) (T := TX9) (N := 4) hx hb hts hiX9 tyX9 tyX9_ok nmX9 hown hK hP hD hS 2 rfl rfl 3 (by decide) hf56 (fun _ h9 => h9) rfl (tyX9_ok 3 (by decide)) rfl rfl (Nat.le_of_ble_eq_true rfl) dX9_settle_16 (fun H locs hP hD hS => ?_)
  have hP := kPe (ef_wX2_3 ad ck r1.1 r1.2.1 r1.2.2 (if (5 : Int32) < (F_X5_people r1.1 r1.2.1 r1.2.2) then (5 : Int32) else (F_X5_people r1.1 r1.2.1 r1.2.2))) hP
  have hD := kDe (ef_wX2_3 ad ck r1.1 r1.2.1 r1.2.2 (if (5 : Int32) < (F_X5_people r1.1 r1.2.1 r1.2.2) then (5 : Int32) else (F_X5_people r1.1 r1.2.1 r1.2.2))) hD
  refine lv_iconst (v := 0) hx hb dX9_settle_19 (by decide) ?_
  refine lv_istore_n (lv' := [(2, .int 0), (0, .ref (ad 2)), (1, .ref (ad 1))]) hx hb dX9_settle_20 rfl hl (by decide) rfl (fun ls hl => ?_)
  exact hN_21 kFu (upd r1.1 5 (if (5 : Int32) < (F_X5_people r1.1 r1.2.1 r1.2.2) then (5 : Int32) else (F_X5_people r1.1 r1.2.1 r1.2.2))) r1.2.1 r1.2.2 _ _ 0 ls hP hD hS (lv_sub hl [1, 2, 0] rfl) _ hF hp
