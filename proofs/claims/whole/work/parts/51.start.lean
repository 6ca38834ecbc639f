/-! ===== the start: both objects are made, then the loop ===== -/
theorem ti_X0 : (Cond.instantiable RX0 1 : Cond) ∈ lw_tbl := List.mem_of_getElem? (i := 164) (by decide +kernel)
theorem ti_X1 : (Cond.instantiable RX1 4 : Cond) ∈ lw_tbl := List.mem_of_getElem? (i := 232) (by decide +kernel)
theorem ti_X2 : (Cond.instantiable RX2 1 : Cond) ∈ lw_tbl := List.mem_of_getElem? (i := 156) (by decide +kernel)
theorem ti_X3 : (Cond.instantiable RX3 10 : Cond) ∈ lw_tbl := List.mem_of_getElem? (i := 91) (by decide +kernel)
theorem ti_X4 : (Cond.instantiable RX4 3 : Cond) ∈ lw_tbl := List.mem_of_getElem? (i := 252) (by decide +kernel)
theorem ti_X5 : (Cond.instantiable RX5 2 : Cond) ∈ lw_tbl := List.mem_of_getElem? (i := 69) (by decide +kernel)
theorem ti_X6 : (Cond.instantiable RX6 1 : Cond) ∈ lw_tbl := List.mem_of_getElem? (i := 145) (by decide +kernel)
theorem ti_X7 : (Cond.instantiable RX7 4 : Cond) ∈ lw_tbl := List.mem_of_getElem? (i := 211) (by decide +kernel)
theorem ti_X8 : (Cond.instantiable RX8 1 : Cond) ∈ lw_tbl := List.mem_of_getElem? (i := 172) (by decide +kernel)
theorem ti_X9 : (Cond.instantiable RX9 4 : Cond) ∈ lw_tbl := List.mem_of_getElem? (i := 85) (by decide +kernel)
theorem ti_X10 : (Cond.instantiable RX10 1 : Cond) ∈ lw_tbl := List.mem_of_getElem? (i := 180) (by decide +kernel)
theorem ti_X11 : (Cond.instantiable RX11 10 : Cond) ∈ lw_tbl := List.mem_of_getElem? (i := 61) (by decide +kernel)
theorem ti_X12 : (Cond.instantiable RX12 31 : Cond) ∈ lw_tbl := List.mem_of_getElem? (i := 709) (by decide +kernel)
theorem tn_X11 : (Cond.initialized RX11 : Cond) ∈ lw_tbl := List.mem_of_getElem? (i := 40) (by decide +kernel)
theorem tn_X12 : (Cond.initialized RX12 : Cond) ∈ lw_tbl := List.mem_of_getElem? (i := 52) (by decide +kernel)
theorem tn_S : (Cond.initialized "java/lang/String" : Cond) ∈ lw_tbl := List.mem_of_getElem? (i := 53) (by decide +kernel)
theorem tc_7 : (Cond.classLink RL 7 RX11 : Cond) ∈ lw_tbl := List.mem_of_getElem? (i := 60) (by decide +kernel)
theorem tc_10 : (Cond.classLink RL 10 RX12 : Cond) ∈ lw_tbl := List.mem_of_getElem? (i := 708) (by decide +kernel)
theorem tm_9 : (Cond.methodLink RL 9 yX11_init : Cond) ∈ lw_tbl := List.mem_of_getElem? (i := 62) (by decide +kernel)
theorem tm_12 : (Cond.methodLink RL 12 yX12_init : Cond) ∈ lw_tbl := List.mem_of_getElem? (i := 710) (by decide +kernel)
theorem tj_11 : (Cond.instanceMethod yX11_init : Cond) ∈ lw_tbl := List.mem_of_getElem? (i := 63) (by decide +kernel)
theorem tj_12 : (Cond.instanceMethod yX12_init : Cond) ∈ lw_tbl := List.mem_of_getElem? (i := 711) (by decide +kernel)
theorem ts_R : (Cond.stringRef RX5 31 "phfrt") ∈ lw_tbl := List.mem_of_getElem? (i := 332) (by decide +kernel)
theorem ts_Z : (Cond.laysStatic "java/lang/String" "COMPACT_STRINGS" "Z") ∈ lw_tbl := List.mem_of_getElem? (i := 349) (by decide +kernel)
theorem ts_A : (Cond.arrayOver (.object RX6)) ∈ lw_tbl := List.mem_of_getElem? (i := 144) (by decide +kernel)
theorem kApp {A : Nat → Prop} {wa wb : va_W} (hD : va_D A (wa ++ wb)) : ∀ q, kAd wa q → ¬ kAd wb q := by
  rintro q ⟨i, e, hi⟩ ⟨j, e', hj⟩
  have h1 : i < wa.length := (List.getElem?_eq_some_iff.mp hi).1
  have h2 : (wa ++ wb)[i]? = some (q, e) := by rw [List.getElem?_append_left h1]; exact hi
  have h3 : (wa ++ wb)[wa.length + j]? = some (q, e') := by
    rw [List.getElem?_append_right (by omega)]
    simpa using hj
  have h4 := hD.1 i (wa.length + j) _ _ h2 h3 rfl
  omega
theorem kinds_eq (ad : Nat → Nat) : va_up (va_up (va_up (va_up (va_up (fun _ => none) (0 : Int32).toNatClampNeg (some (ad 8))) (1 : Int32).toNatClampNeg (some (ad 9))) (2 : Int32).toNatClampNeg (some (ad 10))) (3 : Int32).toNatClampNeg (some (ad 11))) (4 : Int32).toNatClampNeg (some (ad 12)) = kkin ad := by
  funext k
  have e0 : (0 : Int32).toNatClampNeg = 0 := rfl
  have e1 : (1 : Int32).toNatClampNeg = 1 := rfl
  have e2 : (2 : Int32).toNatClampNeg = 2 := rfl
  have e3 : (3 : Int32).toNatClampNeg = 3 := rfl
  have e4 : (4 : Int32).toNatClampNeg = 4 := rfl
  rw [e0, e1, e2, e3, e4]
  unfold va_up kkin
  rcases Nat.lt_or_ge k 5 with h | h
  · rw [if_pos h]
    rcases (show k = 0 ∨ k = 1 ∨ k = 2 ∨ k = 3 ∨ k = 4 by omega) with rfl | rfl | rfl | rfl | rfl <;> rfl
  · rw [if_neg (by omega), if_neg (by omega), if_neg (by omega), if_neg (by omega), if_neg (by omega), if_neg (by omega)]
def aI : Nat → Nat → Int32 := fun j _ => if j = 31 then (-1) else 0
def fI : Nat → Int32 := fun _ => 0
def gI : Nat → Int64 := fun _ => 0
def bI : Nat → Nat → Int32 := fun _ _ => 0
theorem kpeo_I (ad : Nat → Nat) : (fun _ => none) = kpeo ad (aI 31) := by
  funext k
  rfl

theorem start_K {s : State} {b : Nat} (hts : ∀ w ∈ lw_tbl, w.before #[Value.ref b] s = true) : ∃ D : va_G, va_K D vwCl [] s := by
  obtain ⟨c0, iS0, hKn0⟩ := u_known (C := RX0) (T := TX0) (N := 1) (n := 1) hts inX0 (hts _ ti_X0)
  obtain ⟨c1, iS1, hKn1⟩ := u_known (C := RX1) (T := TX1) (N := 4) (n := 4) hts inX1 (hts _ ti_X1)
  obtain ⟨c2, iS2, hKn2⟩ := u_known (C := RX2) (T := TX2) (N := 1) (n := 1) hts inX2 (hts _ ti_X2)
  obtain ⟨c3, iS3, hKn3⟩ := u_known (C := RX3) (T := TX3) (N := 10) (n := 10) hts inX3 (hts _ ti_X3)
  obtain ⟨c4, iS4, hKn4⟩ := u_known (C := RX4) (T := TX4) (N := 3) (n := 3) hts inX4 (hts _ ti_X4)
  obtain ⟨c5, iS5, hKn5⟩ := u_known (C := RX5) (T := TX5) (N := 2) (n := 2) hts inX5 (hts _ ti_X5)
  obtain ⟨c6, iS6, hKn6⟩ := u_known (C := RX6) (T := TX6) (N := 1) (n := 1) hts inX6 (hts _ ti_X6)
  obtain ⟨c7, iS7, hKn7⟩ := u_known (C := RX7) (T := TX7) (N := 4) (n := 4) hts inX7 (hts _ ti_X7)
  obtain ⟨c8, iS8, hKn8⟩ := u_known (C := RX8) (T := TX8) (N := 1) (n := 1) hts inX8 (hts _ ti_X8)
  obtain ⟨c9, iS9, hKn9⟩ := u_known (C := RX9) (T := TX9) (N := 4) (n := 4) hts inX9 (hts _ ti_X9)
  obtain ⟨c10, iS10, hKn10⟩ := u_known (C := RX10) (T := TX10) (N := 1) (n := 1) hts inX10 (hts _ ti_X10)
  obtain ⟨c11, iS11, hKn11⟩ := u_known (C := RX11) (T := TX11) (N := 10) (n := 10) hts inX11 (hts _ ti_X11)
  obtain ⟨c12, iS12, hKn12⟩ := u_known (C := RX12) (T := TX12) (N := 31) (n := 31) hts inX12 (hts _ ti_X12)
  refine ⟨(fun k => if k = 0 then c0 else if k = 1 then c1 else if k = 2 then c2 else if k = 3 then c3 else if k = 4 then c4 else if k = 5 then c5 else if k = 6 then c6 else if k = 7 then c7 else if k = 8 then c8 else if k = 9 then c9 else if k = 10 then c10 else if k = 11 then c11 else c12, fun k => if k = 0 then iS0 else if k = 1 then iS1 else if k = 2 then iS2 else if k = 3 then iS3 else if k = 4 then iS4 else if k = 5 then iS5 else if k = 6 then iS6 else if k = 7 then iS7 else if k = 8 then iS8 else if k = 9 then iS9 else if k = 10 then iS10 else if k = 11 then iS11 else iS12), ?_, fun k q h => by cases h⟩
  intro k q hq
  match k, hq with
  | 0, hq => cases hq; exact hKn0
  | 1, hq => cases hq; exact hKn1
  | 2, hq => cases hq; exact hKn2
  | 3, hq => cases hq; exact hKn3
  | 4, hq => cases hq; exact hKn4
  | 5, hq => cases hq; exact hKn5
  | 6, hq => cases hq; exact hKn6
  | 7, hq => cases hq; exact hKn7
  | 8, hq => cases hq; exact hKn8
  | 9, hq => cases hq; exact hKn9
  | 10, hq => cases hq; exact hKn10
  | 11, hq => cases hq; exact hKn11
  | 12, hq => cases hq; exact hKn12
  | k + 13, hq => simp [vwCl] at hq
theorem start_S {s : State} {b : Nat} (hts : ∀ w ∈ lw_tbl, w.before #[Value.ref b] s = true) (hgv : (Jvm.Cond.and given_1 narrow_1).before #[Value.ref b] s = true) : kStr s.heap.size s s.heap := by
  have hs := flat_of_before _ hgv
  have hA : ∀ a : Nat, a < s.heap.size → ¬ (fun q : Nat => s.heap.size ≤ q) a := fun a h => Nat.not_le.mpr h
  obtain ⟨adK, adV, h1, h2⟩ := vk_Sof (args := #[Value.ref b]) (s := s) (N := 1) (tm := fun _ => .string "SpeltByFriends$Page" 31) (len := [5]) (byt := [[112, 104, 102, 114, 116]]) (A := fun q : Nat => s.heap.size ≤ q)
    (fun i hi => by have h0 : i = 0 := by omega
                    subst h0; decide)
    (fun i hi => hs _ (by decide +kernel)) (fun i hi => hs _ (by decide +kernel)) (fun i hi => hs _ (by decide +kernel))
    (fun i hi => by have h0 : i = 0 := by omega
                    subst h0; exact hs _ (by decide +kernel))
    (fun i hi j hj => by
      have h0 : i = 0 := by omega
      subst h0
      have hj : j < 5 := hj
      rcases (show j = 0 ∨ j = 1 ∨ j = 2 ∨ j = 3 ∨ j = 4 by omega) with rfl | rfl | rfl | rfl | rfl <;> exact hs _ (by decide +kernel))
    (fun i j hi hj hij => by omega) hA
  exact ⟨adK, adV, vk_R.of (hts _ ts_R) (h2 0 (by decide)), h1, va_Zof (hts _ ts_Z) (hts _ tn_S) (va_eqt (hs _ (by decide +kernel))) hA⟩
theorem start_E {s : State} {b : Nat} {D : va_G} (hts : ∀ w ∈ lw_tbl, w.before #[Value.ref b] s = true) (hgv : (Jvm.Cond.and given_1 narrow_1).before #[Value.ref b] s = true) (hK : va_K D vwCl [] s) : kE s.heap.size D vwCl [] s s.heap := by
  have hs := flat_of_before _ hgv
  refine ⟨hK, fun w hw => va_Nw.of (kNW_t w hw) (hts w (kNW_in w hw)), start_S hts hgv, ?_⟩
  intro q hq
  simp only [kNC, List.mem_cons, List.not_mem_nil, or_false] at hq
  rcases hq with rfl | rfl | rfl | rfl | rfl | rfl | rfl | rfl | rfl | rfl | rfl | rfl | rfl | rfl | rfl
  all_goals exact va_Nc.of (hs _ (by decide +kernel))
set_option maxHeartbeats 40000000 in
set_option maxRecDepth 100000 in
theorem start_open {p : Program} {e : Env} {s : State} {m : MethodId} {below : List Frame} {meth : Method} {c : Code} (l : Launch) {b L : Nat} {xs : Nat → Int32} (hL : L ≤ 256) (C0 : lw_At p s m meth c b L xs) (Rel : Nat → ST → ST → Prop) (h_0 : Rel 0 (fI, gI, aI) (fI, gI, bI)) (h_mono : ∀ (k : Nat) (X M : ST), Rel k X M → Rel (k + 4) X M) (h_letter : st_letter Rel) (h_blank : st_blank Rel) (h_fault : st_fault Rel) (h_town : st_town Rel) (h_about : st_about Rel) (h_as : st_as Rel) (h_go : st_go Rel) (h_sell : st_sell Rel) (h_quarrel : st_quarrel Rel) (h_written : st_written Rel) (h_moves : st_moves Rel) (h_days : st_days Rel) (h_hear : st_hear Rel) (h_forget : st_forget Rel) (h_holders : st_holders Rel) (h_invite : st_invite Rel) (h_years : st_years Rel) (h_image : st_image Rel) (h_restore : st_restore Rel) (h_count : st_count Rel) (h_digest : st_digest Rel) : W p l e room_1 s m #[Value.ref b] below meth c s.heap [] 0 0 (lw_Z below #[Value.ref b] s) (entryFrame m ([Value.ref b] : List Value).toArray 4) := by
  obtain ⟨hx, hb, hr, hml, hown, hts0, hX, hbl, hlocks, hgv⟩ := id C0
  have hts := fun w h => hts0 w (wsL_law_in w h)
  have hown : s.vm.findClass RL = some m.cls := hown
  obtain ⟨D, hK⟩ := start_K hts0
  have hE := start_E hts0 hgv hK
  have hAO : va_AO RX6 s := va_AO.of (hts0 _ ts_A)
  have hA : ∀ q : Nat, s.heap.size ≤ q → (fun q : Nat => s.heap.size ≤ q) q := fun _ h => h
  have hS : va_S (fun q : Nat => s.heap.size ≤ q) s.heap s.heap [] := va_S.rf
  have hP : va_P D vwCl [] s.heap := kP_nil
  have hD : va_D (fun q : Nat => s.heap.size ≤ q) [] := ⟨fun i j p q h => (by cases h), fun k q h => (by cases h)⟩
  have hl := lv_entry ([.ref b]) (n := 4) (Nat.le_of_ble_eq_true rfl)
  rw [lg_entry_eq]
  generalize (lg_sl ([.ref b]) ++ List.replicate (4 - (lg_sl ([.ref b])).length) Slot.unset).toArray = ls at hl ⊢
  have hl : lv_has ls 4 [(0, .ref b)] := hl
  refine va_new (ci := 11) (fs := [.null, .null, .null, .null, .null, .null, .int 0, .int 0, .int 0, .int 0]) (C := RX11) (T := TX11) (N := 10) hx hb hts0 inX11 tyX11 tyX11_ok hown (hts0 _ tc_7) (hts0 _ ti_X11) (hts0 _ tn_X11) hK hP hD hS hA rfl (fun j hj => by rcases (show j = 0 ∨ j = 1 ∨ j = 2 ∨ j = 3 ∨ j = 4 ∨ j = 5 ∨ j = 6 ∨ j = 7 ∨ j = 8 ∨ j = 9 by omega) with rfl | rfl | rfl | rfl | rfl | rfl | rfl | rfl | rfl | rfl <;> rfl) (Nat.le_of_ble_eq_true rfl) (Nat.le_of_ble_eq_true rfl) dL_law_0 (fun h0 H hP hD hS => ?_)
  have hP : va_P D vwCl [(h0, .inr (11, [.null, .null, .null, .null, .null, .null, .int 0, .int 0, .int 0, .int 0]))] H := hP
  have hD : va_D (fun q : Nat => s.heap.size ≤ q) [(h0, .inr (11, [.null, .null, .null, .null, .null, .null, .int 0, .int 0, .int 0, .int 0]))] := hD
  refine lv_dup hx hb dL_law_3 rfl ?_
  refine kS_c (va_runI (As := []) (rest := [.ref h0]) ⟨hx, hb, hml, hown, hts⟩ (c_X11_init l s.heap.size D h0) (cwI 0 hts gL_law_X11_init rfl rfl rfl (hts0 _ tn_X11) (hts0 _ tm_9) (hts0 _ tj_11) rfl pX11_init ⟨Nat.le_of_ble_eq_true rfl, Nat.le_of_ble_eq_true rfl⟩) (kCP.preS hP (kE.renew hE hK hS (fun _ h => h)) hD (Nat.le_trans (Nat.le_refl _) hS.1) hAO) rfl rfl hl.1 rfl (lv_room (Nat.le_of_ble_eq_true rfl)) dL_law_4 ⟨Nat.le_of_ble_eq_true rfl, Nat.le_of_ble_eq_true rfl⟩) hS (fun t H locs ht hvm hB hS => ?_)
  obtain ⟨q1, q3, q4, q6, q8, q9, q10, q11, q12, q13, q14, q15, q17, q20, q23, q26, q30, q31, q33, q34, q35, q36, q37, q38, q39, q41, q42, q43, q45, q46, q47, c3, c8, c9, c10, c11, c12, c13, c14, c30, c33, c34, c35, c36, c37, c38, c41, c42, c45, c46, hP, hK, hD⟩ := hB
  rw [ht] at hP
  have hK := va_K.moved hvm.symm hK
  obtain ⟨adx, hadx⟩ : ∃ f : Nat → Nat, f = fun k => if k = 0 then h0 else if k = 1 then q1 else if k = 2 then q4 else if k = 3 then q6 else if k = 4 then q31 else if k = 5 then q39 else if k = 6 then q43 else if k = 7 then q47 else if k = 8 then q15 else if k = 9 then q17 else if k = 10 then q20 else if k = 11 then q23 else if k = 12 then q26 else if k = 13 then q3 else if k = 14 then q8 else if k = 15 then q9 else if k = 16 then q10 else if k = 17 then q11 else if k = 18 then q12 else if k = 19 then q13 else if k = 20 then q33 else if k = 21 then q34 else if k = 22 then q35 else if k = 23 then q36 else if k = 24 then q37 else if k = 25 then q38 else if k = 26 then q41 else if k = 27 then q42 else if k = 28 then q45 else if k = 29 then q46 else if k = 30 then q14 else if k = 31 then q30 else 0 := ⟨_, rfl⟩
  obtain ⟨ckx, hckx⟩ : ∃ f : Nat → ClassId, f = fun k => if k = 13 then c3 else if k = 14 then c8 else if k = 15 then c9 else if k = 16 then c10 else if k = 17 then c11 else if k = 18 then c12 else if k = 19 then c13 else if k = 20 then c33 else if k = 21 then c34 else if k = 22 then c35 else if k = 23 then c36 else if k = 24 then c37 else if k = 25 then c38 else if k = 26 then c41 else if k = 27 then c42 else if k = 28 then c45 else if k = 29 then c46 else if k = 30 then c14 else if k = 31 then c30 else c30 := ⟨_, rfl⟩
  have hkin : (va_up (va_up (va_up (va_up (va_up (fun _ => none) (0 : Int32).toNatClampNeg (some q15)) (1 : Int32).toNatClampNeg (some q17)) (2 : Int32).toNatClampNeg (some q20)) (3 : Int32).toNatClampNeg (some q23)) (4 : Int32).toNatClampNeg (some q26)) = kkin adx := by rw [hadx]; exact kinds_eq (fun k => if k = 0 then h0 else if k = 1 then q1 else if k = 2 then q4 else if k = 3 then q6 else if k = 4 then q31 else if k = 5 then q39 else if k = 6 then q43 else if k = 7 then q47 else if k = 8 then q15 else if k = 9 then q17 else if k = 10 then q20 else if k = 11 then q23 else if k = 12 then q26 else if k = 13 then q3 else if k = 14 then q8 else if k = 15 then q9 else if k = 16 then q10 else if k = 17 then q11 else if k = 18 then q12 else if k = 19 then q13 else if k = 20 then q33 else if k = 21 then q34 else if k = 22 then q35 else if k = 23 then q36 else if k = 24 then q37 else if k = 25 then q38 else if k = 26 then q41 else if k = 27 then q42 else if k = 28 then q45 else if k = 29 then q46 else if k = 30 then q14 else if k = 31 then q30 else 0)
  rw [hkin] at hP hD
  rw [kpeo_I adx] at hP hD
  have hP : va_P D vwCl (wX adx ckx fI gI aI) H := by
    have hP := hP.sub (ws' := [(h0, .inr (11, [.ref q1, .ref q4, .ref q31, .ref q39, .ref q43, .ref q47, .int 0, .int 0, .int 0, .int 0])), (q1, .inr (5, [.ref q3, .int 0])), (q4, .inr (9, [.ref q6, .ref q14, .ref q30, .int 0])), (q6, .inr (3, [.ref q8, .ref q9, .ref q10, .ref q11, .ref q12, .ref q13, .int 0, .int 0, .int 0, .int 0])), (q31, .inr (3, [.ref q33, .ref q34, .ref q35, .ref q36, .ref q37, .ref q38, .int 0, .int 0, .int 0, .int 0])), (q39, .inr (7, [.ref q41, .int 0, .ref q42, .int 0])), (q43, .inr (1, [.ref q45, .ref q46, .int 0, .int 0])), (q47, .inr (4, [.int 0, .int 0, .int 0])), (q15, .inr (6, [.int 0])), (q17, .inr (2, [.int 1])), (q20, .inr (0, [.int 2])), (q23, .inr (8, [.int 3])), (q26, .inr (10, [.int 4])), (q3, .inl (c3, 21, .inl (fun _ => 0))), (q8, .inl (c8, 5, .inl (fun _ => 0))), (q9, .inl (c9, 5, .inl (fun _ => 0))), (q10, .inl (c10, 5, .inl (fun _ => 0))), (q11, .inl (c11, 6, .inl (fun _ => 0))), (q12, .inl (c12, 6, .inl (fun _ => 0))), (q13, .inl (c13, 6, .inl (fun _ => 0))), (q33, .inl (c33, 5, .inl (fun _ => 0))), (q34, .inl (c34, 5, .inl (fun _ => 0))), (q35, .inl (c35, 5, .inl (fun _ => 0))), (q36, .inl (c36, 6, .inl (fun _ => 0))), (q37, .inl (c37, 6, .inl (fun _ => 0))), (q38, .inl (c38, 6, .inl (fun _ => 0))), (q41, .inl (c41, 32, .inl (fun _ => 0))), (q42, .inl (c42, 3, .inl (fun _ => 0))), (q45, .inl (c45, 25, .inl (fun _ => 0))), (q46, .inl (c46, 25, .inl (fun _ => 0))), (q14, .inl (c14, 5, .inr (.inr (.inr (.inr (kkin adx)))))), (q30, .inl (c30, 5, .inr (.inr (.inr (.inr (kpeo adx (aI 31)))))))]) [0, 1, 3, 4, 18, 25, 28, 31, 12, 13, 14, 15, 16, 2, 5, 6, 7, 8, 9, 10, 19, 20, 21, 22, 23, 24, 26, 27, 29, 30, 11, 17] rfl
    subst hadx hckx
    exact hP
  have hD : va_D (fun q : Nat => s.heap.size ≤ q) (wX adx ckx fI gI aI) := by
    have hD := hD.sub (ws' := [(h0, .inr (11, [.ref q1, .ref q4, .ref q31, .ref q39, .ref q43, .ref q47, .int 0, .int 0, .int 0, .int 0])), (q1, .inr (5, [.ref q3, .int 0])), (q4, .inr (9, [.ref q6, .ref q14, .ref q30, .int 0])), (q6, .inr (3, [.ref q8, .ref q9, .ref q10, .ref q11, .ref q12, .ref q13, .int 0, .int 0, .int 0, .int 0])), (q31, .inr (3, [.ref q33, .ref q34, .ref q35, .ref q36, .ref q37, .ref q38, .int 0, .int 0, .int 0, .int 0])), (q39, .inr (7, [.ref q41, .int 0, .ref q42, .int 0])), (q43, .inr (1, [.ref q45, .ref q46, .int 0, .int 0])), (q47, .inr (4, [.int 0, .int 0, .int 0])), (q15, .inr (6, [.int 0])), (q17, .inr (2, [.int 1])), (q20, .inr (0, [.int 2])), (q23, .inr (8, [.int 3])), (q26, .inr (10, [.int 4])), (q3, .inl (c3, 21, .inl (fun _ => 0))), (q8, .inl (c8, 5, .inl (fun _ => 0))), (q9, .inl (c9, 5, .inl (fun _ => 0))), (q10, .inl (c10, 5, .inl (fun _ => 0))), (q11, .inl (c11, 6, .inl (fun _ => 0))), (q12, .inl (c12, 6, .inl (fun _ => 0))), (q13, .inl (c13, 6, .inl (fun _ => 0))), (q33, .inl (c33, 5, .inl (fun _ => 0))), (q34, .inl (c34, 5, .inl (fun _ => 0))), (q35, .inl (c35, 5, .inl (fun _ => 0))), (q36, .inl (c36, 6, .inl (fun _ => 0))), (q37, .inl (c37, 6, .inl (fun _ => 0))), (q38, .inl (c38, 6, .inl (fun _ => 0))), (q41, .inl (c41, 32, .inl (fun _ => 0))), (q42, .inl (c42, 3, .inl (fun _ => 0))), (q45, .inl (c45, 25, .inl (fun _ => 0))), (q46, .inl (c46, 25, .inl (fun _ => 0))), (q14, .inl (c14, 5, .inr (.inr (.inr (.inr (kkin adx)))))), (q30, .inl (c30, 5, .inr (.inr (.inr (.inr (kpeo adx (aI 31)))))))]) [0, 1, 3, 4, 18, 25, 28, 31, 12, 13, 14, 15, 16, 2, 5, 6, 7, 8, 9, 10, 19, 20, 21, 22, 23, 24, 26, 27, 29, 30, 11, 17] (by decide) rfl
    subst hadx hckx
    exact hD
  have hK : va_K D vwCl (tX ckx) s := by
    have hK := hK.sub (tys' := [(c3, .int), (c8, .int), (c9, .int), (c10, .int), (c11, .int), (c12, .int), (c13, .int), (c33, .int), (c34, .int), (c35, .int), (c36, .int), (c37, .int), (c38, .int), (c41, .int), (c42, .int), (c45, .int), (c46, .int), (c14, .object RX6), (c30, .object RX6)]) [0, 1, 2, 3, 4, 5, 6, 9, 10, 11, 12, 13, 14, 15, 16, 17, 18, 7, 8] rfl
    subst hckx
    exact hK
  have ha0 : adx 0 = h0 := by rw [hadx]; rfl
  rw [← ha0]
  refine lv_astore_n (lv' := [(1, .ref (adx 0)), (0, .ref b)]) hx hb dL_law_7 rfl hl (by decide) rfl (fun ls hl => ?_)
  refine va_new (ci := 12) (fs := [.int 0, .int 0, .null, .null, .null, .null, .int 0, .int 0, .int 0, .null, .null, .null, .int 0, .int 0, .int 0, .null, .null, .long 0, .null, .int 0, .int 0, .int 0, .int 0, .int 0, .null, .null, .null, .null, .null, .null, .long 0]) (C := RX12) (T := TX12) (N := 31) hx hb hts0 inX12 tyX12 tyX12_ok hown (hts0 _ tc_10) (hts0 _ ti_X12) (hts0 _ tn_X12) hK hP hD hS hA rfl (fun j hj => by rcases (show j = 0 ∨ j = 1 ∨ j = 2 ∨ j = 3 ∨ j = 4 ∨ j = 5 ∨ j = 6 ∨ j = 7 ∨ j = 8 ∨ j = 9 ∨ j = 10 ∨ j = 11 ∨ j = 12 ∨ j = 13 ∨ j = 14 ∨ j = 15 ∨ j = 16 ∨ j = 17 ∨ j = 18 ∨ j = 19 ∨ j = 20 ∨ j = 21 ∨ j = 22 ∨ j = 23 ∨ j = 24 ∨ j = 25 ∨ j = 26 ∨ j = 27 ∨ j = 28 ∨ j = 29 ∨ j = 30 by omega) with rfl | rfl | rfl | rfl | rfl | rfl | rfl | rfl | rfl | rfl | rfl | rfl | rfl | rfl | rfl | rfl | rfl | rfl | rfl | rfl | rfl | rfl | rfl | rfl | rfl | rfl | rfl | rfl | rfl | rfl | rfl <;> rfl) (Nat.le_of_ble_eq_true rfl) (Nat.le_of_ble_eq_true rfl) dL_law_8 (fun o0 H hP hD hS => ?_)
  have hP : va_P D vwCl (wX adx ckx fI gI aI ++ [(o0, .inr (12, [.int 0, .int 0, .null, .null, .null, .null, .int 0, .int 0, .int 0, .null, .null, .null, .int 0, .int 0, .int 0, .null, .null, .long 0, .null, .int 0, .int 0, .int 0, .int 0, .int 0, .null, .null, .null, .null, .null, .null, .long 0]))]) H := hP
  have hD : va_D (fun q : Nat => s.heap.size ≤ q) (wX adx ckx fI gI aI ++ [(o0, .inr (12, [.int 0, .int 0, .null, .null, .null, .null, .int 0, .int 0, .int 0, .null, .null, .null, .int 0, .int 0, .int 0, .null, .null, .long 0, .null, .int 0, .int 0, .int 0, .int 0, .int 0, .null, .null, .null, .null, .null, .null, .long 0]))]) := hD
  have hK : va_K D vwCl (tX ckx ++ []) s := by rw [List.append_nil]; exact hK
  refine lv_dup hx hb dL_law_11 rfl ?_
  refine kS_c (va_runI (As := []) (rest := [.ref o0]) ⟨hx, hb, hml, hown, hts⟩ (c_X12_init l s.heap.size D adx ckx fI gI aI o0) (cwI 0 hts gL_law_X12_init rfl rfl rfl (hts0 _ tn_X12) (hts0 _ tm_12) (hts0 _ tj_12) rfl pX12_init ⟨Nat.le_of_ble_eq_true rfl, Nat.le_of_ble_eq_true rfl⟩) (kCP.preS hP (kE.renew hE hK hS (fun _ h => h)) hD (Nat.le_trans (Nat.le_refl _) hS.1) hAO) rfl rfl hl.1 rfl (lv_room (Nat.le_of_ble_eq_true rfl)) dL_law_12 ⟨Nat.le_of_ble_eq_true rfl, Nat.le_of_ble_eq_true rfl⟩) hS (fun t H locs ht hvm hB hS => ?_)
  obtain ⟨q49, q50, q51, q52, q53, q54, q55, q56, q57, q58, q59, q60, q61, q62, q63, q64, c49, c50, c51, c52, c53, c54, c55, c56, c57, c58, c59, c60, c61, c62, c63, c64, hP, hK, hD⟩ := hB
  rw [ht] at hP
  have hK := va_K.moved hvm.symm hK
  obtain ⟨adm, hadm⟩ : ∃ f : Nat → Nat, f = fun k => if k = 0 then o0 else if k = 2 then q49 else if k = 3 then q50 else if k = 4 then q51 else if k = 5 then q52 else if k = 9 then q53 else if k = 10 then q54 else if k = 11 then q55 else if k = 15 then q56 else if k = 16 then q57 else if k = 18 then q58 else if k = 24 then q59 else if k = 25 then q60 else if k = 26 then q61 else if k = 27 then q62 else if k = 28 then q63 else if k = 29 then q64 else 0 := ⟨_, rfl⟩
  obtain ⟨ckm, hckm⟩ : ∃ f : Nat → ClassId, f = fun k => if k = 2 then c49 else if k = 3 then c50 else if k = 4 then c51 else if k = 5 then c52 else if k = 9 then c53 else if k = 10 then c54 else if k = 11 then c55 else if k = 15 then c56 else if k = 16 then c57 else if k = 18 then c58 else if k = 24 then c59 else if k = 25 then c60 else if k = 26 then c61 else if k = 27 then c62 else if k = 28 then c63 else if k = 29 then c64 else c64 := ⟨_, rfl⟩
  have hwm : [(o0, .inr (12, [.int 0, .int 0, .ref q49, .ref q50, .ref q51, .ref q52, .int 0, .int 0, .int 0, .ref q53, .ref q54, .ref q55, .int 0, .int 0, .int 0, .ref q56, .ref q57, .long 0, .ref q58, .int 0, .int 0, .int 0, .int 0, .int 0, .ref q59, .ref q60, .ref q61, .ref q62, .ref q63, .ref q64, .long 0])), (q49, .inl (c49, 5, .inl (fun _ => 0))), (q50, .inl (c50, 10, .inl (fun _ => 0))), (q51, .inl (c51, 5, .inl (fun _ => 0))), (q52, .inl (c52, 5, .inl (fun _ => 0))), (q53, .inl (c53, 6, .inl (fun _ => 0))), (q54, .inl (c54, 6, .inl (fun _ => 0))), (q55, .inl (c55, 6, .inl (fun _ => 0))), (q56, .inl (c56, 21, .inl (fun _ => 0))), (q57, .inl (c57, 32, .inl (fun _ => 0))), (q58, .inl (c58, 5, .inl (fun _ => 0))), (q59, .inl (c59, 10, .inl (fun _ => 0))), (q60, .inl (c60, 5, .inl (fun _ => 0))), (q61, .inl (c61, 5, .inl (fun _ => 0))), (q62, .inl (c62, 6, .inl (fun _ => 0))), (q63, .inl (c63, 6, .inl (fun _ => 0))), (q64, .inl (c64, 6, .inl (fun _ => 0)))] = wM adm ckm fI gI bI := by rw [hadm, hckm]; rfl
  have htm : [(c49, .int), (c50, .int), (c51, .int), (c52, .int), (c53, .int), (c54, .int), (c55, .int), (c56, .byte), (c57, .int), (c58, .int), (c59, .int), (c60, .int), (c61, .int), (c62, .int), (c63, .int), (c64, .int)] = tM ckm := by rw [hckm]; rfl
  rw [hwm] at hP hD
  rw [htm] at hK
  have hPx : va_P D vwCl (wX adx ckx fI gI aI) H := fun k q h => hP k q (by rw [List.getElem?_append_left (List.getElem?_eq_some_iff.mp h).1]; exact h)
  have hPm : va_P D vwCl (wM adm ckm fI gI bI) H := fun k q h => hP (32 + k) q (by rw [List.getElem?_append_right (by show 32 ≤ 32 + k; omega), show 32 + k - (wX adx ckx fI gI aI).length = k from by show 32 + k - 32 = k; omega]; exact h)
  have hDx : va_D (fun q : Nat => s.heap.size ≤ q) (wX adx ckx fI gI aI) := ⟨fun i j x y h1 h2 h3 => hD.1 i j x y (by rw [List.getElem?_append_left (List.getElem?_eq_some_iff.mp h1).1]; exact h1) (by rw [List.getElem?_append_left (List.getElem?_eq_some_iff.mp h2).1]; exact h2) h3, fun k q h => hD.2 k q (by rw [List.getElem?_append_left (List.getElem?_eq_some_iff.mp h).1]; exact h)⟩
  have hRt : ∀ (k : Nat) (q : Nat × va_E), (wM adm ckm fI gI bI)[k]? = some q → (wX adx ckx fI gI aI ++ wM adm ckm fI gI bI)[32 + k]? = some q := fun k q h => by rw [List.getElem?_append_right (by show 32 ≤ 32 + k; omega), show 32 + k - (wX adx ckx fI gI aI).length = k from by show 32 + k - 32 = k; omega]; exact h
  have hDm : va_D (fun q : Nat => s.heap.size ≤ q) (wM adm ckm fI gI bI) := ⟨fun i j x y h1 h2 h3 => by have h4 := hD.1 (32 + i) (32 + j) x y (hRt i x h1) (hRt j y h2) h3; omega, fun k q h => hD.2 (32 + k) q (hRt k q h)⟩
  have hap : ∀ q ∈ dX adx, q ∉ dM adm := fun q h1 h2 => kApp hD q (kAd_mem.mpr h1) (kAd_mem.mpr h2)
  have hKx : va_K D vwCl (tX ckx) s := ⟨hK.1, fun k q h => hK.2 k q (by rw [List.getElem?_append_left (List.getElem?_eq_some_iff.mp h).1]; exact h)⟩
  have hKm : va_K D vwCl (tM ckm) s := ⟨hK.1, fun k q h => hK.2 (19 + k) q (by rw [List.getElem?_append_right (by show 19 ≤ 19 + k; omega), show 19 + k - (tX ckx).length = k from by show 19 + k - 19 = k; omega]; exact h)⟩
  have hEx : kE s.heap.size D vwCl (tX ckx) s s.heap := ⟨hKx, hE.2⟩
  have hEm : kE s.heap.size D vwCl (tM ckm) s s.heap := ⟨hKm, hE.2⟩
  have ha0 : adm 0 = o0 := by rw [hadm]; rfl
  rw [← ha0]
  refine lv_astore_n (lv' := [(2, .ref (adm 0)), (1, .ref (adx 0)), (0, .ref b)]) hx hb dL_law_15 rfl hl (by decide) rfl (fun ls hl => ?_)
  refine lv_iconst (v := 0) hx hb dL_law_16 (by decide) ?_
  refine lv_istore_n (lv' := [(3, .int 0), (2, .ref (adm 0)), (1, .ref (adx 0)), (0, .ref b)]) hx hb dL_law_17 rfl hl (by decide) rfl (fun ls hl => ?_)
  refine W.widen (k := 600000) (n := 7302250) (Nat.le_of_ble_eq_true rfl) (Nat.le_of_ble_eq_true rfl) ?_
  exact law_loop hL C0 adx ckx adm ckm hap hEx hEm Rel h_mono h_letter h_blank h_fault h_town h_about h_as h_go h_sell h_quarrel h_written h_moves h_days h_hear h_forget h_holders h_invite h_years h_image h_restore h_count h_digest 1000 0 0 (by decide) (by omega) rfl fI gI aI fI gI bI h_0 H locs hPx hPm hDx hDm hS ls (lv_sub hl [3, 2, 1, 0] rfl)
