/-! ===== Page.kindAt: the place of a letter in the class's one text ===== -/
def F_X5_kindAt (f0 : Nat → Int32) (g0 : Nat → Int64) (a0 : Nat → Nat → Int32) (p1 : Int32) : Option Int32 := F_J0_indexOf_0f7a4 (((F_at 21 (a0 13) ((4 : Int32) * p1)).toUInt32 % 65536).toInt32)
theorem vk_S1 {adK adV : Nat → Nat} {A : Nat → Prop} {U : State} {H : Heap} (h : vk_S 1 [5] [[112, 104, 102, 114, 116]] adK adV A U H) : vk_S 1 [5] [[112, 104, 102, 114, 116]] (fun _ => adK 0) (fun _ => adV 0) A U H := by
  refine ⟨fun i hi => ?_, fun i j hi hj _ => by omega⟩
  have h0 : i = 0 := by omega
  subst h0
  exact h.1 0 hi
set_option maxHeartbeats 4000000 in
set_option maxRecDepth 100000 in
theorem c_X5_kindAt (l : Launch) (hz : Nat) (D : va_G) (ad : Nat → Nat) (ck : Nat → ClassId) (f0 : Nat → Int32) (g0 : Nat → Int64) (a0 : Nat → Nat → Int32) (p1 : Int32) (out : Int32) (hF : F_X5_kindAt f0 g0 a0 p1 = some out) : Met l yX5_kindAt wsX5_kindAt ({ frames := 4, cells := 0, slots := 0, locals := 91 }) (kR hz D vwCl (tX ck) (wX ad ck f0 g0 a0) [.ref (ad 1), .int p1]) (kZi out) 0 0 (fun _ => False) := by
  refine Met.ofW (cc := cX5_kindAt) (maxL := 2) (ret := (some .int)) (by decide) rfl ?_
  intro p e s m args below meth c s₁ B hml hv
  obtain ⟨rfl, hP, hE⟩ := hv
  have hx := B.exec
  have hb := B.bytes
  have hr := B.returns
  have hts := atoms_spec (ws := wsX5_kindAt) B.pre
  have hown : s.vm.findClass RX5 = some m.cls := findClass_of_methodNamed B.named
  have hlocks := B.notSynchronized
  have hK := hE.1
  have hiX5 : ∀ w ∈ u_ws RX5 TX5 2, w ∈ wsX5_kindAt := by decide +kernel
  have hf9 := hts (.fieldLink RX5 9 "SpeltByFriends$Page" "letters" "[I") (by decide +kernel)
  have hS : va_S (fun q => hz ≤ q) s.heap s.heap [] := va_S.rf
  obtain ⟨adK, adV, hR, hJ, hZ⟩ := hE.2.2.1
  have hJ := vk_S1 hJ
  generalize adK 0 = ak at hR hJ
  generalize adV 0 = vk at hJ
  have hl := lv_entry ([.ref (ad 1), .int p1]) (n := 2) (Nat.le_of_ble_eq_true rfl)
  rw [lg_entry_eq]
  generalize (lg_sl ([.ref (ad 1), .int p1]) ++ List.replicate (2 - (lg_sl ([.ref (ad 1), .int p1])).length) Slot.unset).toArray = ls at hl ⊢
  have hl : lv_has ls 2 [(0, .ref (ad 1)), (1, .int p1)] := hl
  unfold F_X5_kindAt at hF
  refine va_ldcS hx hb hown hR dX5_kindAt_0 ?_
  refine lv_aload_n hx hb dX5_kindAt_2 rfl (lv_at hl 0 rfl) ?_
  refine va_get (D := D) (ci := 5) (v := .ref (ad 13)) (C := RX5) (T := TX5) (N := 2) hx hb hts hiX5 hown hK hP 1 rfl rfl 0 (by decide) hf9 (fun _ h9 => h9) rfl dX5_kindAt_3 ?_
  refine lv_iconst (v := 4) hx hb dX5_kindAt_6 (by decide) ?_
  refine lv_iload_n hx hb dX5_kindAt_7 rfl (lv_at hl 1 rfl) ?_
  refine lv_imul hx hb dX5_kindAt_8 ?_
  refine kS_i (va_runSN (As := [.ref (ad 13), .int ((4 : Int32) * p1)]) (rest := [.ref ak]) ⟨hx, hb, hml, hown, hts⟩ (c_X11_at l hz D (tX ck) (wX ad ck f0 g0 a0) 13 0 rfl rfl (by decide) ((4 : Int32) * p1)) ⟨va_cnB 2 hts gX5_kindAt_X11_at_n33 rfl rfl rfl (hE.2.1 _ knX5_33) (hts (.initialized RX11) (by decide +kernel)) pX11_at ⟨Nat.le_of_ble_eq_true rfl, Nat.le_of_ble_eq_true rfl⟩, hts (.static yX11_at) (by decide +kernel), trivial⟩ (kR.preS hP hE) rfl rfl hl.1 rfl (lv_room (Nat.le_of_ble_eq_true rfl)) dX5_kindAt_9 ⟨Nat.le_refl _, Nat.le_refl _⟩) ?_
  refine lv_i2c (v := ((F_at 21 (a0 13) ((4 : Int32) * p1)).toUInt32 % 65536).toInt32) hx hb dX5_kindAt_12 rfl ?_
  refine kS_i (va_runV (As := [.int ((F_at 21 (a0 13) ((4 : Int32) * p1)).toUInt32 % 65536).toInt32]) (rest := []) ⟨hx, hb, hml, hown, hts⟩ (c_J0_indexOf_0f7a4 l hz ak vk ((F_at 21 (a0 13) ((4 : Int32) * p1)).toUInt32 % 65536).toInt32 out hF) (cwV 1 hts gX5_kindAt_J0_indexOf_0f7a4 rfl rfl rfl ⟨rfl, pJ0_indexOf_0f7a4⟩ ⟨Nat.le_of_ble_eq_true rfl, Nat.le_of_ble_eq_true rfl⟩) (kJ.preV (vk_recv hJ (i := 0) (by decide) hS) hJ hZ) rfl rfl hl.1 rfl (lv_room (Nat.le_of_ble_eq_true rfl)) dX5_kindAt_13 ⟨Nat.le_refl _, Nat.le_refl _⟩) ?_
  exact W.iret hx hb hr (fun t ht hW => ⟨_, rfl, rfl, ht⟩) (fun q hq => by cases hq) dX5_kindAt_16
