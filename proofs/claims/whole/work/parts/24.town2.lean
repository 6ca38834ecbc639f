/-! ===== the class, by program (tools/gen.py) ===== -/
def F_X9_kindOf (f0 : Nat → Int32) (g0 : Nat → Int64) (a0 : Nat → Nat → Int32) (p1 : Int32) : Int32 := if (F_X9_personAt f0 g0 a0 p1) = 0 then 0 else (if (F_X9_personAt f0 g0 a0 p1) = 1 then 1 else (if (F_X9_personAt f0 g0 a0 p1) = 2 then 2 else (if (F_X9_personAt f0 g0 a0 p1) = 3 then 3 else (if (F_X9_personAt f0 g0 a0 p1) = 4 then 4 else ((-1))))))
set_option maxHeartbeats 4000000 in
set_option maxRecDepth 100000 in
theorem c_X9_kindOf (l : Launch) (hz : Nat) (D : va_G) (ad : Nat → Nat) (ck : Nat → ClassId) (f0 : Nat → Int32) (g0 : Nat → Int64) (a0 : Nat → Nat → Int32) (p1 : Int32) : Met l yX9_kindOf wsX9_kindOf ({ frames := 2, cells := 0, slots := 0, locals := 42 }) (kR hz D vwCl (tX ck) (wX ad ck f0 g0 a0) [.ref (ad 2), .int p1]) (kZi (F_X9_kindOf f0 g0 a0 p1)) 0 0 (fun _ => False) := by
  generalize hF : F_X9_kindOf f0 g0 a0 p1 = out
  refine Met.ofW (cc := cX9_kindOf) (maxL := 3) (ret := (some .int)) (by decide) rfl ?_
  intro p e s m args below meth c s₁ B hml hv
  obtain ⟨rfl, hP, hE⟩ := hv
  have hx := B.exec
  have hb := B.bytes
  have hr := B.returns
  have hts := atoms_spec (ws := wsX9_kindOf) B.pre
  have hown : s.vm.findClass RX9 = some m.cls := findClass_of_methodNamed B.named
  have hlocks := B.notSynchronized
  have hK := hE.1
  have hiX0 : ∀ w ∈ u_ws RX0 TX0 1, w ∈ wsX9_kindOf := by decide +kernel
  have hiX10 : ∀ w ∈ u_ws RX10 TX10 1, w ∈ wsX9_kindOf := by decide +kernel
  have hiX2 : ∀ w ∈ u_ws RX2 TX2 1, w ∈ wsX9_kindOf := by decide +kernel
  have hiX6 : ∀ w ∈ u_ws RX6 TX6 1, w ∈ wsX9_kindOf := by decide +kernel
  have hiX8 : ∀ w ∈ u_ws RX8 TX8 1, w ∈ wsX9_kindOf := by decide +kernel
  have hf89 := hts (.fieldLink RX9 89 "SpeltByFriends$Person" "kind" "I") (by decide +kernel)
  have hl := lv_entry ([.ref (ad 2), .int p1]) (n := 3) (Nat.le_of_ble_eq_true rfl)
  rw [lg_entry_eq]
  generalize (lg_sl ([.ref (ad 2), .int p1]) ++ List.replicate (3 - (lg_sl ([.ref (ad 2), .int p1])).length) Slot.unset).toArray = ls at hl ⊢
  have hl : lv_has ls 3 [(0, .ref (ad 2)), (1, .int p1)] := hl
  obtain ⟨r, hF, hp⟩ : ∃ r, F_X9_kindOf f0 g0 a0 p1 = r ∧ r = out := ⟨out, hF, rfl⟩
  unfold F_X9_kindOf at hF
  refine lv_aload_n hx hb dX9_kindOf_0 rfl (lv_at hl 0 rfl) ?_
  refine lv_iload_n hx hb dX9_kindOf_1 rfl (lv_at hl 1 rfl) ?_
  refine kS_r (va_runV (As := [.int p1]) (rest := []) ⟨hx, hb, hml, hown, hts⟩ (c_X9_personAt l hz D ad ck f0 g0 a0 p1) (cwV 1 hts gX9_kindOf_X9_personAt rfl rfl rfl ⟨rfl, pX9_personAt⟩ ⟨Nat.le_of_ble_eq_true rfl, Nat.le_of_ble_eq_true rfl⟩) (kR.preV (va_recv hK hP (ci := 9) (q0 := 2) rfl rfl) hP hE) rfl rfl hl.1 rfl (lv_room (Nat.le_of_ble_eq_true rfl)) dX9_kindOf_2 ⟨Nat.le_refl _, Nat.le_refl _⟩) ?_
  by_cases hc1 : (F_X9_personAt f0 g0 a0 p1) = 0
  · have hF := it_p hc1 hF
    rw [kref_0 ad hc1]
    refine lv_astore_n (lv' := [(2, .ref (ad 8)), (0, .ref (ad 2)), (1, .int p1)]) hx hb dX9_kindOf_5 rfl hl (by decide) rfl (fun ls hl => ?_)
    refine lv_aload_n hx hb dX9_kindOf_6 rfl (lv_at hl 0 rfl) ?_
    refine lv_ifnonnull (tgt := 14) hx hb dX9_kindOf_7 (by decide) ?_
    refine lv_aload_n hx hb dX9_kindOf_14 rfl (lv_at hl 0 rfl) ?_
    refine va_get (D := D) (ci := 6) (v := .int 0) (C := RX6) (T := TX6) (N := 1) hx hb hts hiX6 hown hK hP 8 rfl rfl 0 (by decide) hf89 (fun _ h9 => h9) rfl dX9_kindOf_15 ?_
    exact W.iret hx hb hr (fun t ht hW => ⟨_, rfl, hF.trans hp, ht⟩) (fun q hq => by cases hq) dX9_kindOf_18
  have hF := it_n hc1 hF
  by_cases hc2 : (F_X9_personAt f0 g0 a0 p1) = 1
  · have hF := it_p hc2 hF
    rw [kref_1 ad hc2]
    refine lv_astore_n (lv' := [(2, .ref (ad 9)), (0, .ref (ad 2)), (1, .int p1)]) hx hb dX9_kindOf_5 rfl hl (by decide) rfl (fun ls hl => ?_)
    refine lv_aload_n hx hb dX9_kindOf_6 rfl (lv_at hl 0 rfl) ?_
    refine lv_ifnonnull (tgt := 14) hx hb dX9_kindOf_7 (by decide) ?_
    refine lv_aload_n hx hb dX9_kindOf_14 rfl (lv_at hl 0 rfl) ?_
    refine va_get (D := D) (ci := 2) (v := .int 1) (C := RX2) (T := TX2) (N := 1) hx hb hts hiX2 hown hK hP 9 rfl rfl 0 (by decide) hf89 (fun _ h9 => h9) rfl dX9_kindOf_15 ?_
    exact W.iret hx hb hr (fun t ht hW => ⟨_, rfl, hF.trans hp, ht⟩) (fun q hq => by cases hq) dX9_kindOf_18
  have hF := it_n hc2 hF
  by_cases hc3 : (F_X9_personAt f0 g0 a0 p1) = 2
  · have hF := it_p hc3 hF
    rw [kref_2 ad hc3]
    refine lv_astore_n (lv' := [(2, .ref (ad 10)), (0, .ref (ad 2)), (1, .int p1)]) hx hb dX9_kindOf_5 rfl hl (by decide) rfl (fun ls hl => ?_)
    refine lv_aload_n hx hb dX9_kindOf_6 rfl (lv_at hl 0 rfl) ?_
    refine lv_ifnonnull (tgt := 14) hx hb dX9_kindOf_7 (by decide) ?_
    refine lv_aload_n hx hb dX9_kindOf_14 rfl (lv_at hl 0 rfl) ?_
    refine va_get (D := D) (ci := 0) (v := .int 2) (C := RX0) (T := TX0) (N := 1) hx hb hts hiX0 hown hK hP 10 rfl rfl 0 (by decide) hf89 (fun _ h9 => h9) rfl dX9_kindOf_15 ?_
    exact W.iret hx hb hr (fun t ht hW => ⟨_, rfl, hF.trans hp, ht⟩) (fun q hq => by cases hq) dX9_kindOf_18
  have hF := it_n hc3 hF
  by_cases hc4 : (F_X9_personAt f0 g0 a0 p1) = 3
  · have hF := it_p hc4 hF
    rw [kref_3 ad hc4]
    refine lv_astore_n (lv' := [(2, .ref (ad 11)), (0, .ref (ad 2)), (1, .int p1)]) hx hb dX9_kindOf_5 rfl hl (by decide) rfl (fun ls hl => ?_)
    refine lv_aload_n hx hb dX9_kindOf_6 rfl (lv_at hl 0 rfl) ?_
    refine lv_ifnonnull (tgt := 14) hx hb dX9_kindOf_7 (by decide) ?_
    refine lv_aload_n hx hb dX9_kindOf_14 rfl (lv_at hl 0 rfl) ?_
    refine va_get (D := D) (ci := 8) (v := .int 3) (C := RX8) (T := TX8) (N := 1) hx hb hts hiX8 hown hK hP 11 rfl rfl 0 (by decide) hf89 (fun _ h9 => h9) rfl dX9_kindOf_15 ?_
    exact W.iret hx hb hr (fun t ht hW => ⟨_, rfl, hF.trans hp, ht⟩) (fun q hq => by cases hq) dX9_kindOf_18
  have hF := it_n hc4 hF
  by_cases hc5 : (F_X9_personAt f0 g0 a0 p1) = 4
  · have hF := it_p hc5 hF
    rw [kref_4 ad hc5]
    refine lv_astore_n (lv' := [(2, .ref (ad 12)), (0, .ref (ad 2)), (1, .int p1)]) hx hb dX9_kindOf_5 rfl hl (by decide) rfl (fun ls hl => ?_)
    refine lv_aload_n hx hb dX9_kindOf_6 rfl (lv_at hl 0 rfl) ?_
    refine lv_ifnonnull (tgt := 14) hx hb dX9_kindOf_7 (by decide) ?_
    refine lv_aload_n hx hb dX9_kindOf_14 rfl (lv_at hl 0 rfl) ?_
    refine va_get (D := D) (ci := 10) (v := .int 4) (C := RX10) (T := TX10) (N := 1) hx hb hts hiX10 hown hK hP 12 rfl rfl 0 (by decide) hf89 (fun _ h9 => h9) rfl dX9_kindOf_15 ?_
    exact W.iret hx hb hr (fun t ht hW => ⟨_, rfl, hF.trans hp, ht⟩) (fun q hq => by cases hq) dX9_kindOf_18
  have hF := it_n hc5 hF
  rw [kref_n ad hc1 hc2 hc3 hc4 hc5]
  refine lv_astore_nN (lv' := [(2, .null), (0, .ref (ad 2)), (1, .int p1)]) hx hb dX9_kindOf_5 rfl hl (by decide) rfl (fun ls hl => ?_)
  refine lv_aload_nN hx hb dX9_kindOf_6 rfl (lv_at hl 0 rfl) ?_
  refine lv_ifnonnullN hx hb dX9_kindOf_7 ?_
  refine lv_iconst (v := (-1)) hx hb dX9_kindOf_10 (by decide) ?_
  refine lv_goto (tgt := 18) hx hb dX9_kindOf_11 (by decide) ?_
  exact W.iret hx hb hr (fun t ht hW => ⟨_, rfl, hF.trans hp, ht⟩) (fun q hq => by cases hq) dX9_kindOf_18

def N_X9_couldWrite_80 (f0 : Nat → Int32) (g0 : Nat → Int64) (a0 : Nat → Nat → Int32) (x2_80 : Int32) (x3_80 : Int32) (x4_80 : Int32) (x6_80 : Int32) (x8_80 : Int32) (t0_80 : Int32) : Int32 := (F_X6_isSpelt f0 g0 a0 x8_80 t0_80 (x2_80 &&& (x6_80 ^^^ (-1 : Int32))) ((x2_80 &&& (x6_80 ^^^ (-1 : Int32))) &&& ((((1 : Int32) <<< (x3_80 &&& 31)) ||| ((1 : Int32) <<< (x4_80 &&& 31))) ^^^ (-1 : Int32))))
def N_X9_couldWrite_62 (f0 : Nat → Int32) (g0 : Nat → Int64) (a0 : Nat → Nat → Int32) (x2_62 : Int32) (x3_62 : Int32) (x4_62 : Int32) (x6_62 : Int32) (x7_62 : Int32) (t0_62 : Int32) : Int32 := if ((x7_62 >>> (x4_62 &&& 31)) &&& (1 : Int32)) = 1 then N_X9_couldWrite_80 f0 g0 a0 x2_62 x3_62 x4_62 x6_62 t0_62 1 else N_X9_couldWrite_80 f0 g0 a0 x2_62 x3_62 x4_62 x6_62 t0_62 0
def N_X9_couldWrite_80v1 (f0 : Nat → Int32) (g0 : Nat → Int64) (a0 : Nat → Nat → Int32) (x2_80v1 : Int32) (x3_80v1 : Int32) (x4_80v1 : Int32) (x6_80v1 : Int32) (x8_80v1 : Int32) (t0_80v1 : Int32) : Int32 := (F_X2_isSpelt f0 g0 a0 x8_80v1 t0_80v1 (x2_80v1 &&& (x6_80v1 ^^^ (-1 : Int32))) ((x2_80v1 &&& (x6_80v1 ^^^ (-1 : Int32))) &&& ((((1 : Int32) <<< (x3_80v1 &&& 31)) ||| ((1 : Int32) <<< (x4_80v1 &&& 31))) ^^^ (-1 : Int32))))
def N_X9_couldWrite_62v1 (f0 : Nat → Int32) (g0 : Nat → Int64) (a0 : Nat → Nat → Int32) (x2_62v1 : Int32) (x3_62v1 : Int32) (x4_62v1 : Int32) (x6_62v1 : Int32) (x7_62v1 : Int32) (t0_62v1 : Int32) : Int32 := if ((x7_62v1 >>> (x4_62v1 &&& 31)) &&& (1 : Int32)) = 1 then N_X9_couldWrite_80v1 f0 g0 a0 x2_62v1 x3_62v1 x4_62v1 x6_62v1 t0_62v1 1 else N_X9_couldWrite_80v1 f0 g0 a0 x2_62v1 x3_62v1 x4_62v1 x6_62v1 t0_62v1 0
def N_X9_couldWrite_80v2 (f0 : Nat → Int32) (g0 : Nat → Int64) (a0 : Nat → Nat → Int32) (x2_80v2 : Int32) (x3_80v2 : Int32) (x4_80v2 : Int32) (x6_80v2 : Int32) (x8_80v2 : Int32) (t0_80v2 : Int32) : Int32 := (F_X0_isSpelt f0 g0 a0 x8_80v2 t0_80v2 (x2_80v2 &&& (x6_80v2 ^^^ (-1 : Int32))) ((x2_80v2 &&& (x6_80v2 ^^^ (-1 : Int32))) &&& ((((1 : Int32) <<< (x3_80v2 &&& 31)) ||| ((1 : Int32) <<< (x4_80v2 &&& 31))) ^^^ (-1 : Int32))))
def N_X9_couldWrite_62v2 (f0 : Nat → Int32) (g0 : Nat → Int64) (a0 : Nat → Nat → Int32) (x2_62v2 : Int32) (x3_62v2 : Int32) (x4_62v2 : Int32) (x6_62v2 : Int32) (x7_62v2 : Int32) (t0_62v2 : Int32) : Int32 := if ((x7_62v2 >>> (x4_62v2 &&& 31)) &&& (1 : Int32)) = 1 then N_X9_couldWrite_80v2 f0 g0 a0 x2_62v2 x3_62v2 x4_62v2 x6_62v2 t0_62v2 1 else N_X9_couldWrite_80v2 f0 g0 a0 x2_62v2 x3_62v2 x4_62v2 x6_62v2 t0_62v2 0
def N_X9_couldWrite_80v3 (f0 : Nat → Int32) (g0 : Nat → Int64) (a0 : Nat → Nat → Int32) (x2_80v3 : Int32) (x3_80v3 : Int32) (x4_80v3 : Int32) (x6_80v3 : Int32) (x8_80v3 : Int32) (t0_80v3 : Int32) : Int32 := (F_X8_isSpelt f0 g0 a0 x8_80v3 t0_80v3 (x2_80v3 &&& (x6_80v3 ^^^ (-1 : Int32))) ((x2_80v3 &&& (x6_80v3 ^^^ (-1 : Int32))) &&& ((((1 : Int32) <<< (x3_80v3 &&& 31)) ||| ((1 : Int32) <<< (x4_80v3 &&& 31))) ^^^ (-1 : Int32))))
def N_X9_couldWrite_62v3 (f0 : Nat → Int32) (g0 : Nat → Int64) (a0 : Nat → Nat → Int32) (x2_62v3 : Int32) (x3_62v3 : Int32) (x4_62v3 : Int32) (x6_62v3 : Int32) (x7_62v3 : Int32) (t0_62v3 : Int32) : Int32 := if ((x7_62v3 >>> (x4_62v3 &&& 31)) &&& (1 : Int32)) = 1 then N_X9_couldWrite_80v3 f0 g0 a0 x2_62v3 x3_62v3 x4_62v3 x6_62v3 t0_62v3 1 else N_X9_couldWrite_80v3 f0 g0 a0 x2_62v3 x3_62v3 x4_62v3 x6_62v3 t0_62v3 0
def N_X9_couldWrite_80v4 (f0 : Nat → Int32) (g0 : Nat → Int64) (a0 : Nat → Nat → Int32) (x2_80v4 : Int32) (x3_80v4 : Int32) (x4_80v4 : Int32) (x6_80v4 : Int32) (x8_80v4 : Int32) (t0_80v4 : Int32) : Int32 := (F_X10_isSpelt f0 g0 a0 x8_80v4 t0_80v4 (x2_80v4 &&& (x6_80v4 ^^^ (-1 : Int32))) ((x2_80v4 &&& (x6_80v4 ^^^ (-1 : Int32))) &&& ((((1 : Int32) <<< (x3_80v4 &&& 31)) ||| ((1 : Int32) <<< (x4_80v4 &&& 31))) ^^^ (-1 : Int32))))
def N_X9_couldWrite_62v4 (f0 : Nat → Int32) (g0 : Nat → Int64) (a0 : Nat → Nat → Int32) (x2_62v4 : Int32) (x3_62v4 : Int32) (x4_62v4 : Int32) (x6_62v4 : Int32) (x7_62v4 : Int32) (t0_62v4 : Int32) : Int32 := if ((x7_62v4 >>> (x4_62v4 &&& 31)) &&& (1 : Int32)) = 1 then N_X9_couldWrite_80v4 f0 g0 a0 x2_62v4 x3_62v4 x4_62v4 x6_62v4 t0_62v4 1 else N_X9_couldWrite_80v4 f0 g0 a0 x2_62v4 x3_62v4 x4_62v4 x6_62v4 t0_62v4 0
def F_X9_couldWrite (f0 : Nat → Int32) (g0 : Nat → Int64) (a0 : Nat → Nat → Int32) (p1 : Int32) (p2 : Int32) (p3 : Int32) (p4 : Int32) : Int32 := if (F_X9_personAt f0 g0 a0 p1) = 0 then if ((p2 >>> (p1 &&& 31)) &&& (1 : Int32)) = 0 then 0 else if ((((p2 &&& ((F_at 5 (a0 16) p1) ^^^ (-1 : Int32))) ||| ((1 : Int32) <<< (p1 &&& 31))) >>> (p3 &&& 31)) &&& (1 : Int32)) = 1 then N_X9_couldWrite_62 f0 g0 a0 p2 p3 p4 ((1 : Int32) <<< (p1 &&& 31)) ((p2 &&& ((F_at 5 (a0 16) p1) ^^^ (-1 : Int32))) ||| ((1 : Int32) <<< (p1 &&& 31))) 1 else N_X9_couldWrite_62 f0 g0 a0 p2 p3 p4 ((1 : Int32) <<< (p1 &&& 31)) ((p2 &&& ((F_at 5 (a0 16) p1) ^^^ (-1 : Int32))) ||| ((1 : Int32) <<< (p1 &&& 31))) 0 else (if (F_X9_personAt f0 g0 a0 p1) = 1 then if ((p2 >>> (p1 &&& 31)) &&& (1 : Int32)) = 0 then 0 else if ((((p2 &&& ((F_at 5 (a0 16) p1) ^^^ (-1 : Int32))) ||| ((1 : Int32) <<< (p1 &&& 31))) >>> (p3 &&& 31)) &&& (1 : Int32)) = 1 then N_X9_couldWrite_62v1 f0 g0 a0 p2 p3 p4 ((1 : Int32) <<< (p1 &&& 31)) ((p2 &&& ((F_at 5 (a0 16) p1) ^^^ (-1 : Int32))) ||| ((1 : Int32) <<< (p1 &&& 31))) 1 else N_X9_couldWrite_62v1 f0 g0 a0 p2 p3 p4 ((1 : Int32) <<< (p1 &&& 31)) ((p2 &&& ((F_at 5 (a0 16) p1) ^^^ (-1 : Int32))) ||| ((1 : Int32) <<< (p1 &&& 31))) 0 else (if (F_X9_personAt f0 g0 a0 p1) = 2 then if ((p2 >>> (p1 &&& 31)) &&& (1 : Int32)) = 0 then 0 else if ((((p2 &&& ((F_at 5 (a0 16) p1) ^^^ (-1 : Int32))) ||| ((1 : Int32) <<< (p1 &&& 31))) >>> (p3 &&& 31)) &&& (1 : Int32)) = 1 then N_X9_couldWrite_62v2 f0 g0 a0 p2 p3 p4 ((1 : Int32) <<< (p1 &&& 31)) ((p2 &&& ((F_at 5 (a0 16) p1) ^^^ (-1 : Int32))) ||| ((1 : Int32) <<< (p1 &&& 31))) 1 else N_X9_couldWrite_62v2 f0 g0 a0 p2 p3 p4 ((1 : Int32) <<< (p1 &&& 31)) ((p2 &&& ((F_at 5 (a0 16) p1) ^^^ (-1 : Int32))) ||| ((1 : Int32) <<< (p1 &&& 31))) 0 else (if (F_X9_personAt f0 g0 a0 p1) = 3 then if ((p2 >>> (p1 &&& 31)) &&& (1 : Int32)) = 0 then 0 else if ((((p2 &&& ((F_at 5 (a0 16) p1) ^^^ (-1 : Int32))) ||| ((1 : Int32) <<< (p1 &&& 31))) >>> (p3 &&& 31)) &&& (1 : Int32)) = 1 then N_X9_couldWrite_62v3 f0 g0 a0 p2 p3 p4 ((1 : Int32) <<< (p1 &&& 31)) ((p2 &&& ((F_at 5 (a0 16) p1) ^^^ (-1 : Int32))) ||| ((1 : Int32) <<< (p1 &&& 31))) 1 else N_X9_couldWrite_62v3 f0 g0 a0 p2 p3 p4 ((1 : Int32) <<< (p1 &&& 31)) ((p2 &&& ((F_at 5 (a0 16) p1) ^^^ (-1 : Int32))) ||| ((1 : Int32) <<< (p1 &&& 31))) 0 else (if (F_X9_personAt f0 g0 a0 p1) = 4 then if ((p2 >>> (p1 &&& 31)) &&& (1 : Int32)) = 0 then 0 else if ((((p2 &&& ((F_at 5 (a0 16) p1) ^^^ (-1 : Int32))) ||| ((1 : Int32) <<< (p1 &&& 31))) >>> (p3 &&& 31)) &&& (1 : Int32)) = 1 then N_X9_couldWrite_62v4 f0 g0 a0 p2 p3 p4 ((1 : Int32) <<< (p1 &&& 31)) ((p2 &&& ((F_at 5 (a0 16) p1) ^^^ (-1 : Int32))) ||| ((1 : Int32) <<< (p1 &&& 31))) 1 else N_X9_couldWrite_62v4 f0 g0 a0 p2 p3 p4 ((1 : Int32) <<< (p1 &&& 31)) ((p2 &&& ((F_at 5 (a0 16) p1) ^^^ (-1 : Int32))) ||| ((1 : Int32) <<< (p1 &&& 31))) 0 else (0)))))
set_option maxHeartbeats 4000000 in
set_option maxRecDepth 100000 in
theorem c_X9_couldWrite (l : Launch) (hz : Nat) (D : va_G) (ad : Nat → Nat) (ck : Nat → ClassId) (f0 : Nat → Int32) (g0 : Nat → Int64) (a0 : Nat → Nat → Int32) (p1 : Int32) (p2 : Int32) (p3 : Int32) (p4 : Int32) : Met l yX9_couldWrite wsX9_couldWrite ({ frames := 2, cells := 0, slots := 0, locals := 42 }) (kR hz D vwCl (tX ck) (wX ad ck f0 g0 a0) [.ref (ad 2), .int p1, .int p2, .int p3, .int p4]) (kZb (F_X9_couldWrite f0 g0 a0 p1 p2 p3 p4)) 0 0 (fun _ => False) := by
  generalize hF : F_X9_couldWrite f0 g0 a0 p1 p2 p3 p4 = out
  refine Met.ofW (cc := cX9_couldWrite) (maxL := 11) (ret := (some .boolean)) (by decide) rfl ?_
  intro p e s m args below meth c s₁ B hml hv
  obtain ⟨rfl, hP, hE⟩ := hv
  have hx := B.exec
  have hb := B.bytes
  have hr := B.returns
  have hts := atoms_spec (ws := wsX9_couldWrite) B.pre
  have hown : s.vm.findClass RX9 = some m.cls := findClass_of_methodNamed B.named
  have hlocks := B.notSynchronized
  have hK := hE.1
  have hiX3 : ∀ w ∈ u_ws RX3 TX3 10, w ∈ wsX9_couldWrite := by decide +kernel
  have hiX9 : ∀ w ∈ u_ws RX9 TX9 4, w ∈ wsX9_couldWrite := by decide +kernel
  have hf12 := hts (.fieldLink RX9 12 "SpeltByFriends$Town" "ledger" "LSpeltByFriends$Ledger;") (by decide +kernel)
  have hf103 := hts (.fieldLink RX9 103 "SpeltByFriends$Ledger" "foes" "[I") (by decide +kernel)
  have hN_80 : ∀ (x2_80 : Int32) (x3_80 : Int32) (x4_80 : Int32) (x6_80 : Int32) (x8_80 : Int32) (t0_80 : Int32) (ls : Array Slot), lv_has ls 11 [(2, .int x2_80), (3, .int x3_80), (4, .int x4_80), (5, .ref (ad 8)), (6, .int x6_80), (8, .int x8_80)] → narrow .boolean (.int x8_80) = .int x8_80 → narrow .boolean (.int t0_80) = .int t0_80 → ∀ r : Int32, N_X9_couldWrite_80 f0 g0 a0 x2_80 x3_80 x4_80 x6_80 x8_80 t0_80 = r → (fun r => r = out) r → W p l e (headSpec wsX9_couldWrite ({ frames := 2, cells := 0, slots := 0, locals := 42 })).room s m [.ref (ad 2), .int p1, .int p2, .int p3, .int p4].toArray below meth c s.heap [] 0 0 (MQ below (kZb out) [.ref (ad 2), .int p1, .int p2, .int p3, .int p4].toArray s 0 0 (fun _ => False)) (F0 m 80 ls [.int t0_80]) := by
    intro x2_80 x3_80 x4_80 x6_80 x8_80 t0_80 ls hl hz_x8_80 hz_t0_80 r hF hp
    unfold N_X9_couldWrite_80 at hF
    refine lv_istore (lv' := [(9, .int t0_80), (2, .int x2_80), (3, .int x3_80), (4, .int x4_80), (5, .ref (ad 8)), (6, .int x6_80), (8, .int x8_80)]) hx hb dX9_couldWrite_80 hl (by decide) rfl (fun ls hl => ?_)
    refine lv_iload_n hx hb dX9_couldWrite_82 rfl (lv_at hl 1 rfl) ?_
    refine lv_iload hx hb dX9_couldWrite_83 (lv_at hl 5 rfl) ?_
    refine lv_iconst (v := (-1)) hx hb dX9_couldWrite_85 (by decide) ?_
    refine lv_ixor hx hb dX9_couldWrite_86 ?_
    refine lv_iand hx hb dX9_couldWrite_87 ?_
    refine lv_istore (lv' := [(10, .int (x2_80 &&& (x6_80 ^^^ (-1 : Int32)))), (9, .int t0_80), (2, .int x2_80), (3, .int x3_80), (4, .int x4_80), (5, .ref (ad 8)), (6, .int x6_80), (8, .int x8_80)]) hx hb dX9_couldWrite_88 hl (by decide) rfl (fun ls hl => ?_)
    refine lv_aload hx hb dX9_couldWrite_90 (lv_at hl 5 rfl) ?_
    refine lv_iload hx hb dX9_couldWrite_92 (lv_at hl 7 rfl) ?_
    refine lv_iload hx hb dX9_couldWrite_94 (lv_at hl 1 rfl) ?_
    refine lv_iload hx hb dX9_couldWrite_96 (lv_at hl 0 rfl) ?_
    refine lv_iload hx hb dX9_couldWrite_98 (lv_at hl 0 rfl) ?_
    refine lv_iconst (v := 1) hx hb dX9_couldWrite_100 (by decide) ?_
    refine lv_iload_n hx hb dX9_couldWrite_101 rfl (lv_at hl 3 rfl) ?_
    refine lv_ishl hx hb dX9_couldWrite_102 ?_
    refine lv_iconst (v := 1) hx hb dX9_couldWrite_103 (by decide) ?_
    refine lv_iload hx hb dX9_couldWrite_104 (lv_at hl 4 rfl) ?_
    refine lv_ishl hx hb dX9_couldWrite_106 ?_
    refine lv_ior hx hb dX9_couldWrite_107 ?_
    refine lv_iconst (v := (-1)) hx hb dX9_couldWrite_108 (by decide) ?_
    refine lv_ixor hx hb dX9_couldWrite_109 ?_
    refine lv_iand hx hb dX9_couldWrite_110 ?_
    refine kS_b (va_runV (As := [.int x8_80, .int t0_80, .int (x2_80 &&& (x6_80 ^^^ (-1 : Int32))), .int ((x2_80 &&& (x6_80 ^^^ (-1 : Int32))) &&& ((((1 : Int32) <<< (x3_80 &&& 31)) ||| ((1 : Int32) <<< (x4_80 &&& 31))) ^^^ (-1 : Int32)))]) (rest := []) ⟨hx, hb, hml, hown, hts⟩ (c_X6_isSpelt l hz D ad ck f0 g0 a0 x8_80 t0_80 (x2_80 &&& (x6_80 ^^^ (-1 : Int32))) ((x2_80 &&& (x6_80 ^^^ (-1 : Int32))) &&& ((((1 : Int32) <<< (x3_80 &&& 31)) ||| ((1 : Int32) <<< (x4_80 &&& 31))) ^^^ (-1 : Int32)))) (cwV 4 hts gX9_couldWrite_X6_isSpelt rfl rfl rfl ⟨rfl, pX6_isSpelt⟩ ⟨Nat.le_of_ble_eq_true rfl, Nat.le_of_ble_eq_true rfl⟩) (kR.preV (va_recv hK hP (ci := 6) (q0 := 8) rfl rfl) hP hE) rfl rfl hl.1 rfl (lv_room (Nat.le_of_ble_eq_true rfl)) dX9_couldWrite_111 ⟨Nat.le_refl _, Nat.le_refl _⟩) (fun hz5 => ?_)
    have hv := hF.trans hp
    exact W.zret hx hb hr hz5 (fun t ht hW => ⟨_, rfl, ⟨hv, by rw [← hv]; exact hz5⟩, ht⟩) (fun q hq => by cases hq) dX9_couldWrite_114
  have hN_62 : ∀ (x2_62 : Int32) (x3_62 : Int32) (x4_62 : Int32) (x6_62 : Int32) (x7_62 : Int32) (t0_62 : Int32) (ls : Array Slot), lv_has ls 11 [(2, .int x2_62), (3, .int x3_62), (4, .int x4_62), (5, .ref (ad 8)), (6, .int x6_62), (7, .int x7_62)] → narrow .boolean (.int t0_62) = .int t0_62 → ∀ r : Int32, N_X9_couldWrite_62 f0 g0 a0 x2_62 x3_62 x4_62 x6_62 x7_62 t0_62 = r → (fun r => r = out) r → W p l e (headSpec wsX9_couldWrite ({ frames := 2, cells := 0, slots := 0, locals := 42 })).room s m [.ref (ad 2), .int p1, .int p2, .int p3, .int p4].toArray below meth c s.heap [] 0 0 (MQ below (kZb out) [.ref (ad 2), .int p1, .int p2, .int p3, .int p4].toArray s 0 0 (fun _ => False)) (F0 m 62 ls [.int t0_62]) := by
    intro x2_62 x3_62 x4_62 x6_62 x7_62 t0_62 ls hl hz_t0_62 r hF hp
    unfold N_X9_couldWrite_62 at hF
    refine lv_istore (lv' := [(8, .int t0_62), (2, .int x2_62), (3, .int x3_62), (4, .int x4_62), (5, .ref (ad 8)), (6, .int x6_62), (7, .int x7_62)]) hx hb dX9_couldWrite_62 hl (by decide) rfl (fun ls hl => ?_)
    refine lv_iload hx hb dX9_couldWrite_64 (lv_at hl 6 rfl) ?_
    refine lv_iload hx hb dX9_couldWrite_66 (lv_at hl 3 rfl) ?_
    refine lv_ishr hx hb dX9_couldWrite_68 ?_
    refine lv_iconst (v := 1) hx hb dX9_couldWrite_69 (by decide) ?_
    refine lv_iand hx hb dX9_couldWrite_70 ?_
    refine lv_iconst (v := 1) hx hb dX9_couldWrite_71 (by decide) ?_
    refine lv_icmp_ne (tgt := 79) hx hb dX9_couldWrite_72 (by decide) (fun hc4 => ?_) (fun hc4 => ?_)
    · have hF := it_n hc4 hF
      refine lv_iconst (v := 0) hx hb dX9_couldWrite_79 (by decide) ?_
      exact hN_80 x2_62 x3_62 x4_62 x6_62 t0_62 0 ls (lv_sub hl [1, 2, 3, 4, 5, 0] rfl) hz_t0_62 rfl _ hF hp
    · have hF := it_p hc4 hF
      refine lv_iconst (v := 1) hx hb dX9_couldWrite_75 (by decide) ?_
      refine lv_goto (tgt := 80) hx hb dX9_couldWrite_76 (by decide) ?_
      exact hN_80 x2_62 x3_62 x4_62 x6_62 t0_62 1 ls (lv_sub hl [1, 2, 3, 4, 5, 0] rfl) hz_t0_62 rfl _ hF hp
  have hN_80v1 : ∀ (x2_80v1 : Int32) (x3_80v1 : Int32) (x4_80v1 : Int32) (x6_80v1 : Int32) (x8_80v1 : Int32) (t0_80v1 : Int32) (ls : Array Slot), lv_has ls 11 [(2, .int x2_80v1), (3, .int x3_80v1), (4, .int x4_80v1), (5, .ref (ad 9)), (6, .int x6_80v1), (8, .int x8_80v1)] → narrow .boolean (.int x8_80v1) = .int x8_80v1 → narrow .boolean (.int t0_80v1) = .int t0_80v1 → ∀ r : Int32, N_X9_couldWrite_80v1 f0 g0 a0 x2_80v1 x3_80v1 x4_80v1 x6_80v1 x8_80v1 t0_80v1 = r → (fun r => r = out) r → W p l e (headSpec wsX9_couldWrite ({ frames := 2, cells := 0, slots := 0, locals := 42 })).room s m [.ref (ad 2), .int p1, .int p2, .int p3, .int p4].toArray below meth c s.heap [] 0 0 (MQ below (kZb out) [.ref (ad 2), .int p1, .int p2, .int p3, .int p4].toArray s 0 0 (fun _ => False)) (F0 m 80 ls [.int t0_80v1]) := by
    intro x2_80v1 x3_80v1 x4_80v1 x6_80v1 x8_80v1 t0_80v1 ls hl hz_x8_80v1 hz_t0_80v1 r hF hp
    unfold N_X9_couldWrite_80v1 at hF
    refine lv_istore (lv' := [(9, .int t0_80v1), (2, .int x2_80v1), (3, .int x3_80v1), (4, .int x4_80v1), (5, .ref (ad 9)), (6, .int x6_80v1), (8, .int x8_80v1)]) hx hb dX9_couldWrite_80 hl (by decide) rfl (fun ls hl => ?_)
    refine lv_iload_n hx hb dX9_couldWrite_82 rfl (lv_at hl 1 rfl) ?_
    refine lv_iload hx hb dX9_couldWrite_83 (lv_at hl 5 rfl) ?_
    refine lv_iconst (v := (-1)) hx hb dX9_couldWrite_85 (by decide) ?_
    refine lv_ixor hx hb dX9_couldWrite_86 ?_
    refine lv_iand hx hb dX9_couldWrite_87 ?_
    refine lv_istore (lv' := [(10, .int (x2_80v1 &&& (x6_80v1 ^^^ (-1 : Int32)))), (9, .int t0_80v1), (2, .int x2_80v1), (3, .int x3_80v1), (4, .int x4_80v1), (5, .ref (ad 9)), (6, .int x6_80v1), (8, .int x8_80v1)]) hx hb dX9_couldWrite_88 hl (by decide) rfl (fun ls hl => ?_)
    refine lv_aload hx hb dX9_couldWrite_90 (lv_at hl 5 rfl) ?_
    refine lv_iload hx hb dX9_couldWrite_92 (lv_at hl 7 rfl) ?_
    refine lv_iload hx hb dX9_couldWrite_94 (lv_at hl 1 rfl) ?_
    refine lv_iload hx hb dX9_couldWrite_96 (lv_at hl 0 rfl) ?_
    refine lv_iload hx hb dX9_couldWrite_98 (lv_at hl 0 rfl) ?_
    refine lv_iconst (v := 1) hx hb dX9_couldWrite_100 (by decide) ?_
    refine lv_iload_n hx hb dX9_couldWrite_101 rfl (lv_at hl 3 rfl) ?_
    refine lv_ishl hx hb dX9_couldWrite_102 ?_
    refine lv_iconst (v := 1) hx hb dX9_couldWrite_103 (by decide) ?_
    refine lv_iload hx hb dX9_couldWrite_104 (lv_at hl 4 rfl) ?_
    refine lv_ishl hx hb dX9_couldWrite_106 ?_
    refine lv_ior hx hb dX9_couldWrite_107 ?_
    refine lv_iconst (v := (-1)) hx hb dX9_couldWrite_108 (by decide) ?_
    refine lv_ixor hx hb dX9_couldWrite_109 ?_
    refine lv_iand hx hb dX9_couldWrite_110 ?_
    refine kS_b (va_runU (As := [.int x8_80v1, .int t0_80v1, .int (x2_80v1 &&& (x6_80v1 ^^^ (-1 : Int32))), .int ((x2_80v1 &&& (x6_80v1 ^^^ (-1 : Int32))) &&& ((((1 : Int32) <<< (x3_80v1 &&& 31)) ||| ((1 : Int32) <<< (x4_80v1 &&& 31))) ^^^ (-1 : Int32)))]) (rest := []) ⟨hx, hb, hml, hown, hts⟩ (c_X2_isSpelt l hz D ad ck f0 g0 a0 x8_80v1 t0_80v1 (x2_80v1 &&& (x6_80v1 ^^^ (-1 : Int32))) ((x2_80v1 &&& (x6_80v1 ^^^ (-1 : Int32))) &&& ((((1 : Int32) <<< (x3_80v1 &&& 31)) ||| ((1 : Int32) <<< (x4_80v1 &&& 31))) ^^^ (-1 : Int32)))) (va_cwO 4 hts gX9_couldWrite_X2_isSpelt_u106X2 rfl rfl rfl (b0 := cX6_isSpelt) (m0 := 5) (r0 := some .boolean) (by decide +kernel) (by decide +kernel) ⟨Nat.le_of_ble_eq_true rfl, Nat.le_of_ble_eq_true rfl⟩) (kR.preV (va_recv hK hP (ci := 2) (q0 := 9) rfl rfl) hP hE) rfl rfl hl.1 rfl (lv_room (Nat.le_of_ble_eq_true rfl)) dX9_couldWrite_111 ⟨Nat.le_refl _, Nat.le_refl _⟩) (fun hz10 => ?_)
    have hv := hF.trans hp
    exact W.zret hx hb hr hz10 (fun t ht hW => ⟨_, rfl, ⟨hv, by rw [← hv]; exact hz10⟩, ht⟩) (fun q hq => by cases hq) dX9_couldWrite_114
  have hN_62v1 : ∀ (x2_62v1 : Int32) (x3_62v1 : Int32) (x4_62v1 : Int32) (x6_62v1 : Int32) (x7_62v1 : Int32) (t0_62v1 : Int32) (ls : Array Slot), lv_has ls 11 [(2, .int x2_62v1), (3, .int x3_62v1), (4, .int x4_62v1), (5, .ref (ad 9)), (6, .int x6_62v1), (7, .int x7_62v1)] → narrow .boolean (.int t0_62v1) = .int t0_62v1 → ∀ r : Int32, N_X9_couldWrite_62v1 f0 g0 a0 x2_62v1 x3_62v1 x4_62v1 x6_62v1 x7_62v1 t0_62v1 = r → (fun r => r = out) r → W p l e (headSpec wsX9_couldWrite ({ frames := 2, cells := 0, slots := 0, locals := 42 })).room s m [.ref (ad 2), .int p1, .int p2, .int p3, .int p4].toArray below meth c s.heap [] 0 0 (MQ below (kZb out) [.ref (ad 2), .int p1, .int p2, .int p3, .int p4].toArray s 0 0 (fun _ => False)) (F0 m 62 ls [.int t0_62v1]) := by
    intro x2_62v1 x3_62v1 x4_62v1 x6_62v1 x7_62v1 t0_62v1 ls hl hz_t0_62v1 r hF hp
    unfold N_X9_couldWrite_62v1 at hF
    refine lv_istore (lv' := [(8, .int t0_62v1), (2, .int x2_62v1), (3, .int x3_62v1), (4, .int x4_62v1), (5, .ref (ad 9)), (6, .int x6_62v1), (7, .int x7_62v1)]) hx hb dX9_couldWrite_62 hl (by decide) rfl (fun ls hl => ?_)
    refine lv_iload hx hb dX9_couldWrite_64 (lv_at hl 6 rfl) ?_
    refine lv_iload hx hb dX9_couldWrite_66 (lv_at hl 3 rfl) ?_
    refine lv_ishr hx hb dX9_couldWrite_68 ?_
    refine lv_iconst (v := 1) hx hb dX9_couldWrite_69 (by decide) ?_
    refine lv_iand hx hb dX9_couldWrite_70 ?_
    refine lv_iconst (v := 1) hx hb dX9_couldWrite_71 (by decide) ?_
    refine lv_icmp_ne (tgt := 79) hx hb dX9_couldWrite_72 (by decide) (fun hc9 => ?_) (fun hc9 => ?_)
    · have hF := it_n hc9 hF
      refine lv_iconst (v := 0) hx hb dX9_couldWrite_79 (by decide) ?_
      exact hN_80v1 x2_62v1 x3_62v1 x4_62v1 x6_62v1 t0_62v1 0 ls (lv_sub hl [1, 2, 3, 4, 5, 0] rfl) hz_t0_62v1 rfl _ hF hp
    · have hF := it_p hc9 hF
      refine lv_iconst (v := 1) hx hb dX9_couldWrite_75 (by decide) ?_
      refine lv_goto (tgt := 80) hx hb dX9_couldWrite_76 (by decide) ?_
      exact hN_80v1 x2_62v1 x3_62v1 x4_62v1 x6_62v1 t0_62v1 1 ls (lv_sub hl [1, 2, 3, 4, 5, 0] rfl) hz_t0_62v1 rfl _ hF hp
  have hN_80v2 : ∀ (x2_80v2 : Int32) (x3_80v2 : Int32) (x4_80v2 : Int32) (x6_80v2 : Int32) (x8_80v2 : Int32) (t0_80v2 : Int32) (ls : Array Slot), lv_has ls 11 [(2, .int x2_80v2), (3, .int x3_80v2), (4, .int x4_80v2), (5, .ref (ad 10)), (6, .int x6_80v2), (8, .int x8_80v2)] → narrow .boolean (.int x8_80v2) = .int x8_80v2 → narrow .boolean (.int t0_80v2) = .int t0_80v2 → ∀ r : Int32, N_X9_couldWrite_80v2 f0 g0 a0 x2_80v2 x3_80v2 x4_80v2 x6_80v2 x8_80v2 t0_80v2 = r → (fun r => r = out) r → W p l e (headSpec wsX9_couldWrite ({ frames := 2, cells := 0, slots := 0, locals := 42 })).room s m [.ref (ad 2), .int p1, .int p2, .int p3, .int p4].toArray below meth c s.heap [] 0 0 (MQ below (kZb out) [.ref (ad 2), .int p1, .int p2, .int p3, .int p4].toArray s 0 0 (fun _ => False)) (F0 m 80 ls [.int t0_80v2]) := by
    intro x2_80v2 x3_80v2 x4_80v2 x6_80v2 x8_80v2 t0_80v2 ls hl hz_x8_80v2 hz_t0_80v2 r hF hp
    unfold N_X9_couldWrite_80v2 at hF
    refine lv_istore (lv' := [(9, .int t0_80v2), (2, .int x2_80v2), (3, .int x3_80v2), (4, .int x4_80v2), (5, .ref (ad 10)), (6, .int x6_80v2), (8, .int x8_80v2)]) hx hb dX9_couldWrite_80 hl (by decide) rfl (fun ls hl => ?_)
    refine lv_iload_n hx hb dX9_couldWrite_82 rfl (lv_at hl 1 rfl) ?_
    refine lv_iload hx hb dX9_couldWrite_83 (lv_at hl 5 rfl) ?_
    refine lv_iconst (v := (-1)) hx hb dX9_couldWrite_85 (by decide) ?_
    refine lv_ixor hx hb dX9_couldWrite_86 ?_
    refine lv_iand hx hb dX9_couldWrite_87 ?_
    refine lv_istore (lv' := [(10, .int (x2_80v2 &&& (x6_80v2 ^^^ (-1 : Int32)))), (9, .int t0_80v2), (2, .int x2_80v2), (3, .int x3_80v2), (4, .int x4_80v2), (5, .ref (ad 10)), (6, .int x6_80v2), (8, .int x8_80v2)]) hx hb dX9_couldWrite_88 hl (by decide) rfl (fun ls hl => ?_)
    refine lv_aload hx hb dX9_couldWrite_90 (lv_at hl 5 rfl) ?_
    refine lv_iload hx hb dX9_couldWrite_92 (lv_at hl 7 rfl) ?_
    refine lv_iload hx hb dX9_couldWrite_94 (lv_at hl 1 rfl) ?_
    refine lv_iload hx hb dX9_couldWrite_96 (lv_at hl 0 rfl) ?_
    refine lv_iload hx hb dX9_couldWrite_98 (lv_at hl 0 rfl) ?_
    refine lv_iconst (v := 1) hx hb dX9_couldWrite_100 (by decide) ?_
    refine lv_iload_n hx hb dX9_couldWrite_101 rfl (lv_at hl 3 rfl) ?_
    refine lv_ishl hx hb dX9_couldWrite_102 ?_
    refine lv_iconst (v := 1) hx hb dX9_couldWrite_103 (by decide) ?_
    refine lv_iload hx hb dX9_couldWrite_104 (lv_at hl 4 rfl) ?_
    refine lv_ishl hx hb dX9_couldWrite_106 ?_
    refine lv_ior hx hb dX9_couldWrite_107 ?_
    refine lv_iconst (v := (-1)) hx hb dX9_couldWrite_108 (by decide) ?_
    refine lv_ixor hx hb dX9_couldWrite_109 ?_
    refine lv_iand hx hb dX9_couldWrite_110 ?_
    refine kS_b (va_runU (As := [.int x8_80v2, .int t0_80v2, .int (x2_80v2 &&& (x6_80v2 ^^^ (-1 : Int32))), .int ((x2_80v2 &&& (x6_80v2 ^^^ (-1 : Int32))) &&& ((((1 : Int32) <<< (x3_80v2 &&& 31)) ||| ((1 : Int32) <<< (x4_80v2 &&& 31))) ^^^ (-1 : Int32)))]) (rest := []) ⟨hx, hb, hml, hown, hts⟩ (c_X0_isSpelt l hz D ad ck f0 g0 a0 x8_80v2 t0_80v2 (x2_80v2 &&& (x6_80v2 ^^^ (-1 : Int32))) ((x2_80v2 &&& (x6_80v2 ^^^ (-1 : Int32))) &&& ((((1 : Int32) <<< (x3_80v2 &&& 31)) ||| ((1 : Int32) <<< (x4_80v2 &&& 31))) ^^^ (-1 : Int32)))) (va_cwO 4 hts gX9_couldWrite_X0_isSpelt_u106X0 rfl rfl rfl (b0 := cX6_isSpelt) (m0 := 5) (r0 := some .boolean) (by decide +kernel) (by decide +kernel) ⟨Nat.le_of_ble_eq_true rfl, Nat.le_of_ble_eq_true rfl⟩) (kR.preV (va_recv hK hP (ci := 0) (q0 := 10) rfl rfl) hP hE) rfl rfl hl.1 rfl (lv_room (Nat.le_of_ble_eq_true rfl)) dX9_couldWrite_111 ⟨Nat.le_refl _, Nat.le_refl _⟩) (fun hz15 => ?_)
    have hv := hF.trans hp
    exact W.zret hx hb hr hz15 (fun t ht hW => ⟨_, rfl, ⟨hv, by rw [← hv]; exact hz15⟩, ht⟩) (fun q hq => by cases hq) dX9_couldWrite_114
  have hN_62v2 : ∀ (x2_62v2 : Int32) (x3_62v2 : Int32) (x4_62v2 : Int32) (x6_62v2 : Int32) (x7_62v2 : Int32) (t0_62v2 : Int32) (ls : Array Slot), lv_has ls 11 [(2, .int x2_62v2), (3, .int x3_62v2), (4, .int x4_62v2), (5, .ref (ad 10)), (6, .int x6_62v2), (7, .int x7_62v2)] → narrow .boolean (.int t0_62v2) = .int t0_62v2 → ∀ r : Int32, N_X9_couldWrite_62v2 f0 g0 a0 x2_62v2 x3_62v2 x4_62v2 x6_62v2 x7_62v2 t0_62v2 = r → (fun r => r = out) r → W p l e (headSpec wsX9_couldWrite ({ frames := 2, cells := 0, slots := 0, locals := 42 })).room s m [.ref (ad 2), .int p1, .int p2, .int p3, .int p4].toArray below meth c s.heap [] 0 0 (MQ below (kZb out) [.ref (ad 2), .int p1, .int p2, .int p3, .int p4].toArray s 0 0 (fun _ => False)) (F0 m 62 ls [.int t0_62v2]) := by
    intro x2_62v2 x3_62v2 x4_62v2 x6_62v2 x7_62v2 t0_62v2 ls hl hz_t0_62v2 r hF hp
    unfold N_X9_couldWrite_62v2 at hF
    refine lv_istore (lv' := [(8, .int t0_62v2), (2, .int x2_62v2), (3, .int x3_62v2), (4, .int x4_62v2), (5, .ref (ad 10)), (6, .int x6_62v2), (7, .int x7_62v2)]) hx hb dX9_couldWrite_62 hl (by decide) rfl (fun ls hl => ?_)
    refine lv_iload hx hb dX9_couldWrite_64 (lv_at hl 6 rfl) ?_
    refine lv_iload hx hb dX9_couldWrite_66 (lv_at hl 3 rfl) ?_
    refine lv_ishr hx hb dX9_couldWrite_68 ?_
    refine lv_iconst (v := 1) hx hb dX9_couldWrite_69 (by decide) ?_
    refine lv_iand hx hb dX9_couldWrite_70 ?_
    refine lv_iconst (v := 1) hx hb dX9_couldWrite_71 (by decide) ?_
    refine lv_icmp_ne (tgt := 79) hx hb dX9_couldWrite_72 (by decide) (fun hc14 => ?_) (fun hc14 => ?_)
    · have hF := it_n hc14 hF
      refine lv_iconst (v := 0) hx hb dX9_couldWrite_79 (by decide) ?_
      exact hN_80v2 x2_62v2 x3_62v2 x4_62v2 x6_62v2 t0_62v2 0 ls (lv_sub hl [1, 2, 3, 4, 5, 0] rfl) hz_t0_62v2 rfl _ hF hp
    · have hF := it_p hc14 hF
      refine lv_iconst (v := 1) hx hb dX9_couldWrite_75 (by decide) ?_
      refine lv_goto (tgt := 80) hx hb dX9_couldWrite_76 (by decide) ?_
      exact hN_80v2 x2_62v2 x3_62v2 x4_62v2 x6_62v2 t0_62v2 1 ls (lv_sub hl [1, 2, 3, 4, 5, 0] rfl) hz_t0_62v2 rfl _ hF hp
  have hN_80v3 : ∀ (x2_80v3 : Int32) (x3_80v3 : Int32) (x4_80v3 : Int32) (x6_80v3 : Int32) (x8_80v3 : Int32) (t0_80v3 : Int32) (ls : Array Slot), lv_has ls 11 [(2, .int x2_80v3), (3, .int x3_80v3), (4, .int x4_80v3), (5, .ref (ad 11)), (6, .int x6_80v3), (8, .int x8_80v3)] → narrow .boolean (.int x8_80v3) = .int x8_80v3 → narrow .boolean (.int t0_80v3) = .int t0_80v3 → ∀ r : Int32, N_X9_couldWrite_80v3 f0 g0 a0 x2_80v3 x3_80v3 x4_80v3 x6_80v3 x8_80v3 t0_80v3 = r → (fun r => r = out) r → W p l e (headSpec wsX9_couldWrite ({ frames := 2, cells := 0, slots := 0, locals := 42 })).room s m [.ref (ad 2), .int p1, .int p2, .int p3, .int p4].toArray below meth c s.heap [] 0 0 (MQ below (kZb out) [.ref (ad 2), .int p1, .int p2, .int p3, .int p4].toArray s 0 0 (fun _ => False)) (F0 m 80 ls [.int t0_80v3]) := by
    intro x2_80v3 x3_80v3 x4_80v3 x6_80v3 x8_80v3 t0_80v3 ls hl hz_x8_80v3 hz_t0_80v3 r hF hp
    unfold N_X9_couldWrite_80v3 at hF
    refine lv_istore (lv' := [(9, .int t0_80v3), (2, .int x2_80v3), (3, .int x3_80v3), (4, .int x4_80v3), (5, .ref (ad 11)), (6, .int x6_80v3), (8, .int x8_80v3)]) hx hb dX9_couldWrite_80 hl (by decide) rfl (fun ls hl => ?_)
    refine lv_iload_n hx hb dX9_couldWrite_82 rfl (lv_at hl 1 rfl) ?_
    refine lv_iload hx hb dX9_couldWrite_83 (lv_at hl 5 rfl) ?_
    refine lv_iconst (v := (-1)) hx hb dX9_couldWrite_85 (by decide) ?_
    refine lv_ixor hx hb dX9_couldWrite_86 ?_
    refine lv_iand hx hb dX9_couldWrite_87 ?_
    refine lv_istore (lv' := [(10, .int (x2_80v3 &&& (x6_80v3 ^^^ (-1 : Int32)))), (9, .int t0_80v3), (2, .int x2_80v3), (3, .int x3_80v3), (4, .int x4_80v3), (5, .ref (ad 11)), (6, .int x6_80v3), (8, .int x8_80v3)]) hx hb dX9_couldWrite_88 hl (by decide) rfl (fun ls hl => ?_)
    refine lv_aload hx hb dX9_couldWrite_90 (lv_at hl 5 rfl) ?_
    refine lv_iload hx hb dX9_couldWrite_92 (lv_at hl 7 rfl) ?_
    refine lv_iload hx hb dX9_couldWrite_94 (lv_at hl 1 rfl) ?_
    refine lv_iload hx hb dX9_couldWrite_96 (lv_at hl 0 rfl) ?_
    refine lv_iload hx hb dX9_couldWrite_98 (lv_at hl 0 rfl) ?_
    refine lv_iconst (v := 1) hx hb dX9_couldWrite_100 (by decide) ?_
    refine lv_iload_n hx hb dX9_couldWrite_101 rfl (lv_at hl 3 rfl) ?_
    refine lv_ishl hx hb dX9_couldWrite_102 ?_
    refine lv_iconst (v := 1) hx hb dX9_couldWrite_103 (by decide) ?_
    refine lv_iload hx hb dX9_couldWrite_104 (lv_at hl 4 rfl) ?_
    refine lv_ishl hx hb dX9_couldWrite_106 ?_
    refine lv_ior hx hb dX9_couldWrite_107 ?_
    refine lv_iconst (v := (-1)) hx hb dX9_couldWrite_108 (by decide) ?_
    refine lv_ixor hx hb dX9_couldWrite_109 ?_
    refine lv_iand hx hb dX9_couldWrite_110 ?_
    refine kS_b (va_runU (As := [.int x8_80v3, .int t0_80v3, .int (x2_80v3 &&& (x6_80v3 ^^^ (-1 : Int32))), .int ((x2_80v3 &&& (x6_80v3 ^^^ (-1 : Int32))) &&& ((((1 : Int32) <<< (x3_80v3 &&& 31)) ||| ((1 : Int32) <<< (x4_80v3 &&& 31))) ^^^ (-1 : Int32)))]) (rest := []) ⟨hx, hb, hml, hown, hts⟩ (c_X8_isSpelt l hz D ad ck f0 g0 a0 x8_80v3 t0_80v3 (x2_80v3 &&& (x6_80v3 ^^^ (-1 : Int32))) ((x2_80v3 &&& (x6_80v3 ^^^ (-1 : Int32))) &&& ((((1 : Int32) <<< (x3_80v3 &&& 31)) ||| ((1 : Int32) <<< (x4_80v3 &&& 31))) ^^^ (-1 : Int32)))) (va_cwO 4 hts gX9_couldWrite_X8_isSpelt_u106X8 rfl rfl rfl (b0 := cX6_isSpelt) (m0 := 5) (r0 := some .boolean) (by decide +kernel) (by decide +kernel) ⟨Nat.le_of_ble_eq_true rfl, Nat.le_of_ble_eq_true rfl⟩) (kR.preV (va_recv hK hP (ci := 8) (q0 := 11) rfl rfl) hP hE) rfl rfl hl.1 rfl (lv_room (Nat.le_of_ble_eq_true rfl)) dX9_couldWrite_111 ⟨Nat.le_refl _, Nat.le_refl _⟩) (fun hz20 => ?_)
    have hv := hF.trans hp
    exact W.zret hx hb hr hz20 (fun t ht hW => ⟨_, rfl, ⟨hv, by rw [← hv]; exact hz20⟩, ht⟩) (fun q hq => by cases hq) dX9_couldWrite_114
  have hN_62v3 : ∀ (x2_62v3 : Int32) (x3_62v3 : Int32) (x4_62v3 : Int32) (x6_62v3 : Int32) (x7_62v3 : Int32) (t0_62v3 : Int32) (ls : Array Slot), lv_has ls 11 [(2, .int x2_62v3), (3, .int x3_62v3), (4, .int x4_62v3), (5, .ref (ad 11)), (6, .int x6_62v3), (7, .int x7_62v3)] → narrow .boolean (.int t0_62v3) = .int t0_62v3 → ∀ r : Int32, N_X9_couldWrite_62v3 f0 g0 a0 x2_62v3 x3_62v3 x4_62v3 x6_62v3 x7_62v3 t0_62v3 = r → (fun r => r = out) r → W p l e (headSpec wsX9_couldWrite ({ frames := 2, cells := 0, slots := 0, locals := 42 })).room s m [.ref (ad 2), .int p1, .int p2, .int p3, .int p4].toArray below meth c s.heap [] 0 0 (MQ below (kZb out) [.ref (ad 2), .int p1, .int p2, .int p3, .int p4].toArray s 0 0 (fun _ => False)) (F0 m 62 ls [.int t0_62v3]) := by
    intro x2_62v3 x3_62v3 x4_62v3 x6_62v3 x7_62v3 t0_62v3 ls hl hz_t0_62v3 r hF hp
    unfold N_X9_couldWrite_62v3 at hF
    refine lv_istore (lv' := [(8, .int t0_62v3), (2, .int x2_62v3), (3, .int x3_62v3), (4, .int x4_62v3), (5, .ref (ad 11)), (6, .int x6_62v3), (7, .int x7_62v3)]) hx hb dX9_couldWrite_62 hl (by decide) rfl (fun ls hl => ?_)
    refine lv_iload hx hb dX9_couldWrite_64 (lv_at hl 6 rfl) ?_
    refine lv_iload hx hb dX9_couldWrite_66 (lv_at hl 3 rfl) ?_
    refine lv_ishr hx hb dX9_couldWrite_68 ?_
    refine lv_iconst (v := 1) hx hb dX9_couldWrite_69 (by decide) ?_
    refine lv_iand hx hb dX9_couldWrite_70 ?_
    refine lv_iconst (v := 1) hx hb dX9_couldWrite_71 (by decide) ?_
    refine lv_icmp_ne (tgt := 79) hx hb dX9_couldWrite_72 (by decide) (fun hc19 => ?_) (fun hc19 => ?_)
    · have hF := it_n hc19 hF
      refine lv_iconst (v := 0) hx hb dX9_couldWrite_79 (by decide) ?_
      exact hN_80v3 x2_62v3 x3_62v3 x4_62v3 x6_62v3 t0_62v3 0 ls (lv_sub hl [1, 2, 3, 4, 5, 0] rfl) hz_t0_62v3 rfl _ hF hp
    · have hF := it_p hc19 hF
      refine lv_iconst (v := 1) hx hb dX9_couldWrite_75 (by decide) ?_
      refine lv_goto (tgt := 80) hx hb dX9_couldWrite_76 (by decide) ?_
      exact hN_80v3 x2_62v3 x3_62v3 x4_62v3 x6_62v3 t0_62v3 1 ls (lv_sub hl [1, 2, 3, 4, 5, 0] rfl) hz_t0_62v3 rfl _ hF hp
  have hN_80v4 : ∀ (x2_80v4 : Int32) (x3_80v4 : Int32) (x4_80v4 : Int32) (x6_80v4 : Int32) (x8_80v4 : Int32) (t0_80v4 : Int32) (ls : Array Slot), lv_has ls 11 [(2, .int x2_80v4), (3, .int x3_80v4), (4, .int x4_80v4), (5, .ref (ad 12)), (6, .int x6_80v4), (8, .int x8_80v4)] → narrow .boolean (.int x8_80v4) = .int x8_80v4 → narrow .boolean (.int t0_80v4) = .int t0_80v4 → ∀ r : Int32, N_X9_couldWrite_80v4 f0 g0 a0 x2_80v4 x3_80v4 x4_80v4 x6_80v4 x8_80v4 t0_80v4 = r → (fun r => r = out) r → W p l e (headSpec wsX9_couldWrite ({ frames := 2, cells := 0, slots := 0, locals := 42 })).room s m [.ref (ad 2), .int p1, .int p2, .int p3, .int p4].toArray below meth c s.heap [] 0 0 (MQ below (kZb out) [.ref (ad 2), .int p1, .int p2, .int p3, .int p4].toArray s 0 0 (fun _ => False)) (F0 m 80 ls [.int t0_80v4]) := by
    intro x2_80v4 x3_80v4 x4_80v4 x6_80v4 x8_80v4 t0_80v4 ls hl hz_x8_80v4 hz_t0_80v4 r hF hp
    unfold N_X9_couldWrite_80v4 at hF
    refine lv_istore (lv' := [(9, .int t0_80v4), (2, .int x2_80v4), (3, .int x3_80v4), (4, .int x4_80v4), (5, .ref (ad 12)), (6, .int x6_80v4), (8, .int x8_80v4)]) hx hb dX9_couldWrite_80 hl (by decide) rfl (fun ls hl => ?_)
    refine lv_iload_n hx hb dX9_couldWrite_82 rfl (lv_at hl 1 rfl) ?_
    refine lv_iload hx hb dX9_couldWrite_83 (lv_at hl 5 rfl) ?_
    refine lv_iconst (v := (-1)) hx hb dX9_couldWrite_85 (by decide) ?_
    refine lv_ixor hx hb dX9_couldWrite_86 ?_
    refine lv_iand hx hb dX9_couldWrite_87 ?_
    refine lv_istore (lv' := [(10, .int (x2_80v4 &&& (x6_80v4 ^^^ (-1 : Int32)))), (9, .int t0_80v4), (2, .int x2_80v4), (3, .int x3_80v4), (4, .int x4_80v4), (5, .ref (ad 12)), (6, .int x6_80v4), (8, .int x8_80v4)]) hx hb dX9_couldWrite_88 hl (by decide) rfl (fun ls hl => ?_)
    refine lv_aload hx hb dX9_couldWrite_90 (lv_at hl 5 rfl) ?_
    refine lv_iload hx hb dX9_couldWrite_92 (lv_at hl 7 rfl) ?_
    refine lv_iload hx hb dX9_couldWrite_94 (lv_at hl 1 rfl) ?_
    refine lv_iload hx hb dX9_couldWrite_96 (lv_at hl 0 rfl) ?_
    refine lv_iload hx hb dX9_couldWrite_98 (lv_at hl 0 rfl) ?_
    refine lv_iconst (v := 1) hx hb dX9_couldWrite_100 (by decide) ?_
    refine lv_iload_n hx hb dX9_couldWrite_101 rfl (lv_at hl 3 rfl) ?_
    refine lv_ishl hx hb dX9_couldWrite_102 ?_
    refine lv_iconst (v := 1) hx hb dX9_couldWrite_103 (by decide) ?_
    refine lv_iload hx hb dX9_couldWrite_104 (lv_at hl 4 rfl) ?_
    refine lv_ishl hx hb dX9_couldWrite_106 ?_
    refine lv_ior hx hb dX9_couldWrite_107 ?_
    refine lv_iconst (v := (-1)) hx hb dX9_couldWrite_108 (by decide) ?_
    refine lv_ixor hx hb dX9_couldWrite_109 ?_
    refine lv_iand hx hb dX9_couldWrite_110 ?_
    refine kS_b (va_runU (As := [.int x8_80v4, .int t0_80v4, .int (x2_80v4 &&& (x6_80v4 ^^^ (-1 : Int32))), .int ((x2_80v4 &&& (x6_80v4 ^^^ (-1 : Int32))) &&& ((((1 : Int32) <<< (x3_80v4 &&& 31)) ||| ((1 : Int32) <<< (x4_80v4 &&& 31))) ^^^ (-1 : Int32)))]) (rest := []) ⟨hx, hb, hml, hown, hts⟩ (c_X10_isSpelt l hz D ad ck f0 g0 a0 x8_80v4 t0_80v4 (x2_80v4 &&& (x6_80v4 ^^^ (-1 : Int32))) ((x2_80v4 &&& (x6_80v4 ^^^ (-1 : Int32))) &&& ((((1 : Int32) <<< (x3_80v4 &&& 31)) ||| ((1 : Int32) <<< (x4_80v4 &&& 31))) ^^^ (-1 : Int32))) hz_x8_80v4) (va_cwO 4 hts gX9_couldWrite_X10_isSpelt_u106X10 rfl rfl rfl (b0 := cX6_isSpelt) (m0 := 5) (r0 := some .boolean) (by decide +kernel) (by decide +kernel) ⟨Nat.le_of_ble_eq_true rfl, Nat.le_of_ble_eq_true rfl⟩) (kR.preV (va_recv hK hP (ci := 10) (q0 := 12) rfl rfl) hP hE) rfl rfl hl.1 rfl (lv_room (Nat.le_of_ble_eq_true rfl)) dX9_couldWrite_111 ⟨Nat.le_refl _, Nat.le_refl _⟩) (fun hz25 => ?_)
    have hv := hF.trans hp
    exact W.zret hx hb hr hz25 (fun t ht hW => ⟨_, rfl, ⟨hv, by rw [← hv]; exact hz25⟩, ht⟩) (fun q hq => by cases hq) dX9_couldWrite_114
  have hN_62v4 : ∀ (x2_62v4 : Int32) (x3_62v4 : Int32) (x4_62v4 : Int32) (x6_62v4 : Int32) (x7_62v4 : Int32) (t0_62v4 : Int32) (ls : Array Slot), lv_has ls 11 [(2, .int x2_62v4), (3, .int x3_62v4), (4, .int x4_62v4), (5, .ref (ad 12)), (6, .int x6_62v4), (7, .int x7_62v4)] → narrow .boolean (.int t0_62v4) = .int t0_62v4 → ∀ r : Int32, N_X9_couldWrite_62v4 f0 g0 a0 x2_62v4 x3_62v4 x4_62v4 x6_62v4 x7_62v4 t0_62v4 = r → (fun r => r = out) r → W p l e (headSpec wsX9_couldWrite ({ frames := 2, cells := 0, slots := 0, locals := 42 })).room s m [.ref (ad 2), .int p1, .int p2, .int p3, .int p4].toArray below meth c s.heap [] 0 0 (MQ below (kZb out) [.ref (ad 2), .int p1, .int p2, .int p3, .int p4].toArray s 0 0 (fun _ => False)) (F0 m 62 ls [.int t0_62v4]) := by
    intro x2_62v4 x3_62v4 x4_62v4 x6_62v4 x7_62v4 t0_62v4 ls hl hz_t0_62v4 r hF hp
    unfold N_X9_couldWrite_62v4 at hF
    refine lv_istore (lv' := [(8, .int t0_62v4), (2, .int x2_62v4), (3, .int x3_62v4), (4, .int x4_62v4), (5, .ref (ad 12)), (6, .int x6_62v4), (7, .int x7_62v4)]) hx hb dX9_couldWrite_62 hl (by decide) rfl (fun ls hl => ?_)
    refine lv_iload hx hb dX9_couldWrite_64 (lv_at hl 6 rfl) ?_
    refine lv_iload hx hb dX9_couldWrite_66 (lv_at hl 3 rfl) ?_
    refine lv_ishr hx hb dX9_couldWrite_68 ?_
    refine lv_iconst (v := 1) hx hb dX9_couldWrite_69 (by decide) ?_
    refine lv_iand hx hb dX9_couldWrite_70 ?_
    refine lv_iconst (v := 1) hx hb dX9_couldWrite_71 (by decide) ?_
    refine lv_icmp_ne (tgt := 79) hx hb dX9_couldWrite_72 (by decide) (fun hc24 => ?_) (fun hc24 => ?_)
    · have hF := it_n hc24 hF
      refine lv_iconst (v := 0) hx hb dX9_couldWrite_79 (by decide) ?_
      exact hN_80v4 x2_62v4 x3_62v4 x4_62v4 x6_62v4 t0_62v4 0 ls (lv_sub hl [1, 2, 3, 4, 5, 0] rfl) hz_t0_62v4 rfl _ hF hp
    · have hF := it_p hc24 hF
      refine lv_iconst (v := 1) hx hb dX9_couldWrite_75 (by decide) ?_
      refine lv_goto (tgt := 80) hx hb dX9_couldWrite_76 (by decide) ?_
      exact hN_80v4 x2_62v4 x3_62v4 x4_62v4 x6_62v4 t0_62v4 1 ls (lv_sub hl [1, 2, 3, 4, 5, 0] rfl) hz_t0_62v4 rfl _ hF hp
  have hl := lv_entry ([.ref (ad 2), .int p1, .int p2, .int p3, .int p4]) (n := 11) (Nat.le_of_ble_eq_true rfl)
  rw [lg_entry_eq]
  generalize (lg_sl ([.ref (ad 2), .int p1, .int p2, .int p3, .int p4]) ++ List.replicate (11 - (lg_sl ([.ref (ad 2), .int p1, .int p2, .int p3, .int p4])).length) Slot.unset).toArray = ls at hl ⊢
  have hl : lv_has ls 11 [(0, .ref (ad 2)), (1, .int p1), (2, .int p2), (3, .int p3), (4, .int p4)] := hl
  obtain ⟨r, hF, hp⟩ : ∃ r, F_X9_couldWrite f0 g0 a0 p1 p2 p3 p4 = r ∧ r = out := ⟨out, hF, rfl⟩
  unfold F_X9_couldWrite at hF
  refine lv_aload_n hx hb dX9_couldWrite_0 rfl (lv_at hl 0 rfl) ?_
  refine lv_iload_n hx hb dX9_couldWrite_1 rfl (lv_at hl 1 rfl) ?_
  refine kS_r (va_runV (As := [.int p1]) (rest := []) ⟨hx, hb, hml, hown, hts⟩ (c_X9_personAt l hz D ad ck f0 g0 a0 p1) (cwV 1 hts gX9_couldWrite_X9_personAt rfl rfl rfl ⟨rfl, pX9_personAt⟩ ⟨Nat.le_of_ble_eq_true rfl, Nat.le_of_ble_eq_true rfl⟩) (kR.preV (va_recv hK hP (ci := 9) (q0 := 2) rfl rfl) hP hE) rfl rfl hl.1 rfl (lv_room (Nat.le_of_ble_eq_true rfl)) dX9_couldWrite_2 ⟨Nat.le_refl _, Nat.le_refl _⟩) ?_
  by_cases hc1 : (F_X9_personAt f0 g0 a0 p1) = 0
  · have hF := it_p hc1 hF
    rw [kref_0 ad hc1]
    refine lv_astore (lv' := [(5, .ref (ad 8)), (0, .ref (ad 2)), (1, .int p1), (2, .int p2), (3, .int p3), (4, .int p4)]) hx hb dX9_couldWrite_5 hl (by decide) rfl (fun ls hl => ?_)
    refine lv_aload hx hb dX9_couldWrite_7 (lv_at hl 0 rfl) ?_
    refine lv_ifnull hx hb dX9_couldWrite_9 ?_
    refine lv_iload_n hx hb dX9_couldWrite_12 rfl (lv_at hl 3 rfl) ?_
    refine lv_iload_n hx hb dX9_couldWrite_13 rfl (lv_at hl 2 rfl) ?_
    refine lv_ishr hx hb dX9_couldWrite_14 ?_
    refine lv_iconst (v := 1) hx hb dX9_couldWrite_15 (by decide) ?_
    refine lv_iand hx hb dX9_couldWrite_16 ?_
    refine lv_if_ne (tgt := 22) hx hb dX9_couldWrite_17 (by decide) (fun hc2 => ?_) (fun hc2 => ?_)
    · have hF := it_n hc2 hF
      refine lv_iconst (v := 1) hx hb dX9_couldWrite_22 (by decide) ?_
      refine lv_iload_n hx hb dX9_couldWrite_23 rfl (lv_at hl 2 rfl) ?_
      refine lv_ishl hx hb dX9_couldWrite_24 ?_
      refine lv_istore (lv' := [(6, .int ((1 : Int32) <<< (p1 &&& 31))), (5, .ref (ad 8)), (0, .ref (ad 2)), (1, .int p1), (2, .int p2), (3, .int p3), (4, .int p4)]) hx hb dX9_couldWrite_25 hl (by decide) rfl (fun ls hl => ?_)
      refine lv_iload_n hx hb dX9_couldWrite_27 rfl (lv_at hl 4 rfl) ?_
      refine lv_aload_n hx hb dX9_couldWrite_28 rfl (lv_at hl 2 rfl) ?_
      refine va_get (D := D) (ci := 9) (v := .ref (ad 3)) (C := RX9) (T := TX9) (N := 4) hx hb hts hiX9 hown hK hP 2 rfl rfl 0 (by decide) hf12 (fun _ h9 => h9) rfl dX9_couldWrite_29 ?_
      refine va_get (D := D) (ci := 3) (v := .ref (ad 16)) (C := RX3) (T := TX3) (N := 10) hx hb hts hiX3 hown hK hP 3 rfl rfl 2 (by decide) hf103 (fun _ h9 => h9) rfl dX9_couldWrite_32 ?_
      refine lv_iload_n hx hb dX9_couldWrite_35 rfl (lv_at hl 3 rfl) ?_
      refine kS_i (va_runSN (As := [.ref (ad 16), .int p1]) (rest := [.int p2]) ⟨hx, hb, hml, hown, hts⟩ (c_X11_at l hz D (tX ck) (wX ad ck f0 g0 a0) 16 3 rfl rfl (by decide) p1) ⟨va_cnB 2 hts gX9_couldWrite_X11_at_n95 rfl rfl rfl (hE.2.1 _ knX9_95) (hts (.initialized RX11) (by decide +kernel)) pX11_at ⟨Nat.le_of_ble_eq_true rfl, Nat.le_of_ble_eq_true rfl⟩, hts (.static yX11_at) (by decide +kernel), trivial⟩ (kR.preS hP hE) rfl rfl hl.1 rfl (lv_room (Nat.le_of_ble_eq_true rfl)) dX9_couldWrite_36 ⟨Nat.le_refl _, Nat.le_refl _⟩) ?_
      refine lv_iconst (v := (-1)) hx hb dX9_couldWrite_39 (by decide) ?_
      refine lv_ixor hx hb dX9_couldWrite_40 ?_
      refine lv_iand hx hb dX9_couldWrite_41 ?_
      refine lv_iload hx hb dX9_couldWrite_42 (lv_at hl 0 rfl) ?_
      refine lv_ior hx hb dX9_couldWrite_44 ?_
      refine lv_istore (lv' := [(7, .int ((p2 &&& ((F_at 5 (a0 16) p1) ^^^ (-1 : Int32))) ||| ((1 : Int32) <<< (p1 &&& 31)))), (6, .int ((1 : Int32) <<< (p1 &&& 31))), (5, .ref (ad 8)), (0, .ref (ad 2)), (1, .int p1), (2, .int p2), (3, .int p3), (4, .int p4)]) hx hb dX9_couldWrite_45 hl (by decide) rfl (fun ls hl => ?_)
      refine lv_iload hx hb dX9_couldWrite_47 (lv_at hl 0 rfl) ?_
      refine lv_iload_n hx hb dX9_couldWrite_49 rfl (lv_at hl 6 rfl) ?_
      refine lv_ishr hx hb dX9_couldWrite_50 ?_
      refine lv_iconst (v := 1) hx hb dX9_couldWrite_51 (by decide) ?_
      refine lv_iand hx hb dX9_couldWrite_52 ?_
      refine lv_iconst (v := 1) hx hb dX9_couldWrite_53 (by decide) ?_
      refine lv_icmp_ne (tgt := 61) hx hb dX9_couldWrite_54 (by decide) (fun hc3 => ?_) (fun hc3 => ?_)
      · have hF := it_n hc3 hF
        refine lv_iconst (v := 0) hx hb dX9_couldWrite_61 (by decide) ?_
        exact hN_62 p2 p3 p4 ((1 : Int32) <<< (p1 &&& 31)) ((p2 &&& ((F_at 5 (a0 16) p1) ^^^ (-1 : Int32))) ||| ((1 : Int32) <<< (p1 &&& 31))) 0 ls (lv_sub hl [5, 6, 7, 2, 1, 0] rfl) rfl _ hF hp
      · have hF := it_p hc3 hF
        refine lv_iconst (v := 1) hx hb dX9_couldWrite_57 (by decide) ?_
        refine lv_goto (tgt := 62) hx hb dX9_couldWrite_58 (by decide) ?_
        exact hN_62 p2 p3 p4 ((1 : Int32) <<< (p1 &&& 31)) ((p2 &&& ((F_at 5 (a0 16) p1) ^^^ (-1 : Int32))) ||| ((1 : Int32) <<< (p1 &&& 31))) 1 ls (lv_sub hl [5, 6, 7, 2, 1, 0] rfl) rfl _ hF hp
    · have hF := it_p hc2 hF
      refine lv_iconst (v := 0) hx hb dX9_couldWrite_20 (by decide) ?_
      have hv := hF.trans hp
      exact W.zret hx hb hr rfl (fun t ht hW => ⟨_, rfl, ⟨hv, by rw [← hv]; exact rfl⟩, ht⟩) (fun q hq => by cases hq) dX9_couldWrite_21
  have hF := it_n hc1 hF
  by_cases hc6 : (F_X9_personAt f0 g0 a0 p1) = 1
  · have hF := it_p hc6 hF
    rw [kref_1 ad hc6]
    refine lv_astore (lv' := [(5, .ref (ad 9)), (0, .ref (ad 2)), (1, .int p1), (2, .int p2), (3, .int p3), (4, .int p4)]) hx hb dX9_couldWrite_5 hl (by decide) rfl (fun ls hl => ?_)
    refine lv_aload hx hb dX9_couldWrite_7 (lv_at hl 0 rfl) ?_
    refine lv_ifnull hx hb dX9_couldWrite_9 ?_
    refine lv_iload_n hx hb dX9_couldWrite_12 rfl (lv_at hl 3 rfl) ?_
    refine lv_iload_n hx hb dX9_couldWrite_13 rfl (lv_at hl 2 rfl) ?_
    refine lv_ishr hx hb dX9_couldWrite_14 ?_
    refine lv_iconst (v := 1) hx hb dX9_couldWrite_15 (by decide) ?_
    refine lv_iand hx hb dX9_couldWrite_16 ?_
    refine lv_if_ne (tgt := 22) hx hb dX9_couldWrite_17 (by decide) (fun hc7 => ?_) (fun hc7 => ?_)
    · have hF := it_n hc7 hF
      refine lv_iconst (v := 1) hx hb dX9_couldWrite_22 (by decide) ?_
      refine lv_iload_n hx hb dX9_couldWrite_23 rfl (lv_at hl 2 rfl) ?_
      refine lv_ishl hx hb dX9_couldWrite_24 ?_
      refine lv_istore (lv' := [(6, .int ((1 : Int32) <<< (p1 &&& 31))), (5, .ref (ad 9)), (0, .ref (ad 2)), (1, .int p1), (2, .int p2), (3, .int p3), (4, .int p4)]) hx hb dX9_couldWrite_25 hl (by decide) rfl (fun ls hl => ?_)
      refine lv_iload_n hx hb dX9_couldWrite_27 rfl (lv_at hl 4 rfl) ?_
      refine lv_aload_n hx hb dX9_couldWrite_28 rfl (lv_at hl 2 rfl) ?_
      refine va_get (D := D) (ci := 9) (v := .ref (ad 3)) (C := RX9) (T := TX9) (N := 4) hx hb hts hiX9 hown hK hP 2 rfl rfl 0 (by decide) hf12 (fun _ h9 => h9) rfl dX9_couldWrite_29 ?_
      refine va_get (D := D) (ci := 3) (v := .ref (ad 16)) (C := RX3) (T := TX3) (N := 10) hx hb hts hiX3 hown hK hP 3 rfl rfl 2 (by decide) hf103 (fun _ h9 => h9) rfl dX9_couldWrite_32 ?_
      refine lv_iload_n hx hb dX9_couldWrite_35 rfl (lv_at hl 3 rfl) ?_
      refine kS_i (va_runSN (As := [.ref (ad 16), .int p1]) (rest := [.int p2]) ⟨hx, hb, hml, hown, hts⟩ (c_X11_at l hz D (tX ck) (wX ad ck f0 g0 a0) 16 3 rfl rfl (by decide) p1) ⟨va_cnB 2 hts gX9_couldWrite_X11_at_n95 rfl rfl rfl (hE.2.1 _ knX9_95) (hts (.initialized RX11) (by decide +kernel)) pX11_at ⟨Nat.le_of_ble_eq_true rfl, Nat.le_of_ble_eq_true rfl⟩, hts (.static yX11_at) (by decide +kernel), trivial⟩ (kR.preS hP hE) rfl rfl hl.1 rfl (lv_room (Nat.le_of_ble_eq_true rfl)) dX9_couldWrite_36 ⟨Nat.le_refl _, Nat.le_refl _⟩) ?_
      refine lv_iconst (v := (-1)) hx hb dX9_couldWrite_39 (by decide) ?_
      refine lv_ixor hx hb dX9_couldWrite_40 ?_
      refine lv_iand hx hb dX9_couldWrite_41 ?_
      refine lv_iload hx hb dX9_couldWrite_42 (lv_at hl 0 rfl) ?_
      refine lv_ior hx hb dX9_couldWrite_44 ?_
      refine lv_istore (lv' := [(7, .int ((p2 &&& ((F_at 5 (a0 16) p1) ^^^ (-1 : Int32))) ||| ((1 : Int32) <<< (p1 &&& 31)))), (6, .int ((1 : Int32) <<< (p1 &&& 31))), (5, .ref (ad 9)), (0, .ref (ad 2)), (1, .int p1), (2, .int p2), (3, .int p3), (4, .int p4)]) hx hb dX9_couldWrite_45 hl (by decide) rfl (fun ls hl => ?_)
      refine lv_iload hx hb dX9_couldWrite_47 (lv_at hl 0 rfl) ?_
      refine lv_iload_n hx hb dX9_couldWrite_49 rfl (lv_at hl 6 rfl) ?_
      refine lv_ishr hx hb dX9_couldWrite_50 ?_
      refine lv_iconst (v := 1) hx hb dX9_couldWrite_51 (by decide) ?_
      refine lv_iand hx hb dX9_couldWrite_52 ?_
      refine lv_iconst (v := 1) hx hb dX9_couldWrite_53 (by decide) ?_
      refine lv_icmp_ne (tgt := 61) hx hb dX9_couldWrite_54 (by decide) (fun hc8 => ?_) (fun hc8 => ?_)
      · have hF := it_n hc8 hF
        refine lv_iconst (v := 0) hx hb dX9_couldWrite_61 (by decide) ?_
        exact hN_62v1 p2 p3 p4 ((1 : Int32) <<< (p1 &&& 31)) ((p2 &&& ((F_at 5 (a0 16) p1) ^^^ (-1 : Int32))) ||| ((1 : Int32) <<< (p1 &&& 31))) 0 ls (lv_sub hl [5, 6, 7, 2, 1, 0] rfl) rfl _ hF hp
      · have hF := it_p hc8 hF
        refine lv_iconst (v := 1) hx hb dX9_couldWrite_57 (by decide) ?_
        refine lv_goto (tgt := 62) hx hb dX9_couldWrite_58 (by decide) ?_
        exact hN_62v1 p2 p3 p4 ((1 : Int32) <<< (p1 &&& 31)) ((p2 &&& ((F_at 5 (a0 16) p1) ^^^ (-1 : Int32))) ||| ((1 : Int32) <<< (p1 &&& 31))) 1 ls (lv_sub hl [5, 6, 7, 2, 1, 0] rfl) rfl _ hF hp
    · have hF := it_p hc7 hF
      refine lv_iconst (v := 0) hx hb dX9_couldWrite_20 (by decide) ?_
      have hv := hF.trans hp
      exact W.zret hx hb hr rfl (fun t ht hW => ⟨_, rfl, ⟨hv, by rw [← hv]; exact rfl⟩, ht⟩) (fun q hq => by cases hq) dX9_couldWrite_21
  have hF := it_n hc6 hF
  by_cases hc11 : (F_X9_personAt f0 g0 a0 p1) = 2
  · have hF := it_p hc11 hF
    rw [kref_2 ad hc11]
    refine lv_astore (lv' := [(5, .ref (ad 10)), (0, .ref (ad 2)), (1, .int p1), (2, .int p2), (3, .int p3), (4, .int p4)]) hx hb dX9_couldWrite_5 hl (by decide) rfl (fun ls hl => ?_)
    refine lv_aload hx hb dX9_couldWrite_7 (lv_at hl 0 rfl) ?_
    refine lv_ifnull hx hb dX9_couldWrite_9 ?_
    refine lv_iload_n hx hb dX9_couldWrite_12 rfl (lv_at hl 3 rfl) ?_
    refine lv_iload_n hx hb dX9_couldWrite_13 rfl (lv_at hl 2 rfl) ?_
    refine lv_ishr hx hb dX9_couldWrite_14 ?_
    refine lv_iconst (v := 1) hx hb dX9_couldWrite_15 (by decide) ?_
    refine lv_iand hx hb dX9_couldWrite_16 ?_
    refine lv_if_ne (tgt := 22) hx hb dX9_couldWrite_17 (by decide) (fun hc12 => ?_) (fun hc12 => ?_)
    · have hF := it_n hc12 hF
      refine lv_iconst (v := 1) hx hb dX9_couldWrite_22 (by decide) ?_
      refine lv_iload_n hx hb dX9_couldWrite_23 rfl (lv_at hl 2 rfl) ?_
      refine lv_ishl hx hb dX9_couldWrite_24 ?_
      refine lv_istore (lv' := [(6, .int ((1 : Int32) <<< (p1 &&& 31))), (5, .ref (ad 10)), (0, .ref (ad 2)), (1, .int p1), (2, .int p2), (3, .int p3), (4, .int p4)]) hx hb dX9_couldWrite_25 hl (by decide) rfl (fun ls hl => ?_)
      refine lv_iload_n hx hb dX9_couldWrite_27 rfl (lv_at hl 4 rfl) ?_
      refine lv_aload_n hx hb dX9_couldWrite_28 rfl (lv_at hl 2 rfl) ?_
      refine va_get (D := D) (ci := 9) (v := .ref (ad 3)) (C := RX9) (T := TX9) (N := 4) hx hb hts hiX9 hown hK hP 2 rfl rfl 0 (by decide) hf12 (fun _ h9 => h9) rfl dX9_couldWrite_29 ?_
      refine va_get (D := D) (ci := 3) (v := .ref (ad 16)) (C := RX3) (T := TX3) (N := 10) hx hb hts hiX3 hown hK hP 3 rfl rfl 2 (by decide) hf103 (fun _ h9 => h9) rfl dX9_couldWrite_32 ?_
      refine lv_iload_n hx hb dX9_couldWrite_35 rfl (lv_at hl 3 rfl) ?_
      refine kS_i (va_runSN (As := [.ref (ad 16), .int p1]) (rest := [.int p2]) ⟨hx, hb, hml, hown, hts⟩ (c_X11_at l hz D (tX ck) (wX ad ck f0 g0 a0) 16 3 rfl rfl (by decide) p1) ⟨va_cnB 2 hts gX9_couldWrite_X11_at_n95 rfl rfl rfl (hE.2.1 _ knX9_95) (hts (.initialized RX11) (by decide +kernel)) pX11_at ⟨Nat.le_of_ble_eq_true rfl, Nat.le_of_ble_eq_true rfl⟩, hts (.static yX11_at) (by decide +kernel), trivial⟩ (kR.preS hP hE) rfl rfl hl.1 rfl (lv_room (Nat.le_of_ble_eq_true rfl)) dX9_couldWrite_36 ⟨Nat.le_refl _, Nat.le_refl _⟩) ?_
      refine lv_iconst (v := (-1)) hx hb dX9_couldWrite_39 (by decide) ?_
      refine lv_ixor hx hb dX9_couldWrite_40 ?_
      refine lv_iand hx hb dX9_couldWrite_41 ?_
      refine lv_iload hx hb dX9_couldWrite_42 (lv_at hl 0 rfl) ?_
      refine lv_ior hx hb dX9_couldWrite_44 ?_
      refine lv_istore (lv' := [(7, .int ((p2 &&& ((F_at 5 (a0 16) p1) ^^^ (-1 : Int32))) ||| ((1 : Int32) <<< (p1 &&& 31)))), (6, .int ((1 : Int32) <<< (p1 &&& 31))), (5, .ref (ad 10)), (0, .ref (ad 2)), (1, .int p1), (2, .int p2), (3, .int p3), (4, .int p4)]) hx hb dX9_couldWrite_45 hl (by decide) rfl (fun ls hl => ?_)
      refine lv_iload hx hb dX9_couldWrite_47 (lv_at hl 0 rfl) ?_
      refine lv_iload_n hx hb dX9_couldWrite_49 rfl (lv_at hl 6 rfl) ?_
      refine lv_ishr hx hb dX9_couldWrite_50 ?_
      refine lv_iconst (v := 1) hx hb dX9_couldWrite_51 (by decide) ?_
      refine lv_iand hx hb dX9_couldWrite_52 ?_
      refine lv_iconst (v := 1) hx hb dX9_couldWrite_53 (by decide) ?_
      refine lv_icmp_ne (tgt := 61) hx hb dX9_couldWrite_54 (by decide) (fun hc13 => ?_) (fun hc13 => ?_)
      · have hF := it_n hc13 hF
        refine lv_iconst (v := 0) hx hb dX9_couldWrite_61 (by decide) ?_
        exact hN_62v2 p2 p3 p4 ((1 : Int32) <<< (p1 &&& 31)) ((p2 &&& ((F_at 5 (a0 16) p1) ^^^ (-1 : Int32))) ||| ((1 : Int32) <<< (p1 &&& 31))) 0 ls (lv_sub hl [5, 6, 7, 2, 1, 0] rfl) rfl _ hF hp
      · have hF := it_p hc13 hF
        refine lv_iconst (v := 1) hx hb dX9_couldWrite_57 (by decide) ?_
        refine lv_goto (tgt := 62) hx hb dX9_couldWrite_58 (by decide) ?_
        exact hN_62v2 p2 p3 p4 ((1 : Int32) <<< (p1 &&& 31)) ((p2 &&& ((F_at 5 (a0 16) p1) ^^^ (-1 : Int32))) ||| ((1 : Int32) <<< (p1 &&& 31))) 1 ls (lv_sub hl [5, 6, 7, 2, 1, 0] rfl) rfl _ hF hp
    · have hF := it_p hc12 hF
      refine lv_iconst (v := 0) hx hb dX9_couldWrite_20 (by decide) ?_
      have hv := hF.trans hp
      exact W.zret hx hb hr rfl (fun t ht hW => ⟨_, rfl, ⟨hv, by rw [← hv]; exact rfl⟩, ht⟩) (fun q hq => by cases hq) dX9_couldWrite_21
  have hF := it_n hc11 hF
  by_cases hc16 : (F_X9_personAt f0 g0 a0 p1) = 3
  · have hF := it_p hc16 hF
    rw [kref_3 ad hc16]
    refine lv_astore (lv' := [(5, .ref (ad 11)), (0, .ref (ad 2)), (1, .int p1), (2, .int p2), (3, .int p3), (4, .int p4)]) hx hb dX9_couldWrite_5 hl (by decide) rfl (fun ls hl => ?_)
    refine lv_aload hx hb dX9_couldWrite_7 (lv_at hl 0 rfl) ?_
    refine lv_ifnull hx hb dX9_couldWrite_9 ?_
    refine lv_iload_n hx hb dX9_couldWrite_12 rfl (lv_at hl 3 rfl) ?_
    refine lv_iload_n hx hb dX9_couldWrite_13 rfl (lv_at hl 2 rfl) ?_
    refine lv_ishr hx hb dX9_couldWrite_14 ?_
    refine lv_iconst (v := 1) hx hb dX9_couldWrite_15 (by decide) ?_
    refine lv_iand hx hb dX9_couldWrite_16 ?_
    refine lv_if_ne (tgt := 22) hx hb dX9_couldWrite_17 (by decide) (fun hc17 => ?_) (fun hc17 => ?_)
    · have hF := it_n hc17 hF
      refine lv_iconst (v := 1) hx hb dX9_couldWrite_22 (by decide) ?_
      refine lv_iload_n hx hb dX9_couldWrite_23 rfl (lv_at hl 2 rfl) ?_
      refine lv_ishl hx hb dX9_couldWrite_24 ?_
      refine lv_istore (lv' := [(6, .int ((1 : Int32) <<< (p1 &&& 31))), (5, .ref (ad 11)), (0, .ref (ad 2)), (1, .int p1), (2, .int p2), (3, .int p3), (4, .int p4)]) hx hb dX9_couldWrite_25 hl (by decide) rfl (fun ls hl => ?_)
      refine lv_iload_n hx hb dX9_couldWrite_27 rfl (lv_at hl 4 rfl) ?_
      refine lv_aload_n hx hb dX9_couldWrite_28 rfl (lv_at hl 2 rfl) ?_
      refine va_get (D := D) (ci := 9) (v := .ref (ad 3)) (C := RX9) (T := TX9) (N := 4) hx hb hts hiX9 hown hK hP 2 rfl rfl 0 (by decide) hf12 (fun _ h9 => h9) rfl dX9_couldWrite_29 ?_
      refine va_get (D := D) (ci := 3) (v := .ref (ad 16)) (C := RX3) (T := TX3) (N := 10) hx hb hts hiX3 hown hK hP 3 rfl rfl 2 (by decide) hf103 (fun _ h9 => h9) rfl dX9_couldWrite_32 ?_
      refine lv_iload_n hx hb dX9_couldWrite_35 rfl (lv_at hl 3 rfl) ?_
      refine kS_i (va_runSN (As := [.ref (ad 16), .int p1]) (rest := [.int p2]) ⟨hx, hb, hml, hown, hts⟩ (c_X11_at l hz D (tX ck) (wX ad ck f0 g0 a0) 16 3 rfl rfl (by decide) p1) ⟨va_cnB 2 hts gX9_couldWrite_X11_at_n95 rfl rfl rfl (hE.2.1 _ knX9_95) (hts (.initialized RX11) (by decide +kernel)) pX11_at ⟨Nat.le_of_ble_eq_true rfl, Nat.le_of_ble_eq_true rfl⟩, hts (.static yX11_at) (by decide +kernel), trivial⟩ (kR.preS hP hE) rfl rfl hl.1 rfl (lv_room (Nat.le_of_ble_eq_true rfl)) dX9_couldWrite_36 ⟨Nat.le_refl _, Nat.le_refl _⟩) ?_
      refine lv_iconst (v := (-1)) hx hb dX9_couldWrite_39 (by decide) ?_
      refine lv_ixor hx hb dX9_couldWrite_40 ?_
      refine lv_iand hx hb dX9_couldWrite_41 ?_
      refine lv_iload hx hb dX9_couldWrite_42 (lv_at hl 0 rfl) ?_
      refine lv_ior hx hb dX9_couldWrite_44 ?_
      refine lv_istore (lv' := [(7, .int ((p2 &&& ((F_at 5 (a0 16) p1) ^^^ (-1 : Int32))) ||| ((1 : Int32) <<< (p1 &&& 31)))), (6, .int ((1 : Int32) <<< (p1 &&& 31))), (5, .ref (ad 11)), (0, .ref (ad 2)), (1, .int p1), (2, .int p2), (3, .int p3), (4, .int p4)]) hx hb dX9_couldWrite_45 hl (by decide) rfl (fun ls hl => ?_)
      refine lv_iload hx hb dX9_couldWrite_47 (lv_at hl 0 rfl) ?_
      refine lv_iload_n hx hb dX9_couldWrite_49 rfl (lv_at hl 6 rfl) ?_
      refine lv_ishr hx hb dX9_couldWrite_50 ?_
      refine lv_iconst (v := 1) hx hb dX9_couldWrite_51 (by decide) ?_
      refine lv_iand hx hb dX9_couldWrite_52 ?_
      refine lv_iconst (v := 1) hx hb dX9_couldWrite_53 (by decide) ?_
      refine lv_icmp_ne (tgt := 61) hx hb dX9_couldWrite_54 (by decide) (fun hc18 => ?_) (fun hc18 => ?_)
      · have hF := it_n hc18 hF
        refine lv_iconst (v := 0) hx hb dX9_couldWrite_61 (by decide) ?_
        exact hN_62v3 p2 p3 p4 ((1 : Int32) <<< (p1 &&& 31)) ((p2 &&& ((F_at 5 (a0 16) p1) ^^^ (-1 : Int32))) ||| ((1 : Int32) <<< (p1 &&& 31))) 0 ls (lv_sub hl [5, 6, 7, 2, 1, 0] rfl) rfl _ hF hp
      · have hF := it_p hc18 hF
        refine lv_iconst (v := 1) hx hb dX9_couldWrite_57 (by decide) ?_
        refine lv_goto (tgt := 62) hx hb dX9_couldWrite_58 (by decide) ?_
        exact hN_62v3 p2 p3 p4 ((1 : Int32) <<< (p1 &&& 31)) ((p2 &&& ((F_at 5 (a0 16) p1) ^^^ (-1 : Int32))) ||| ((1 : Int32) <<< (p1 &&& 31))) 1 ls (lv_sub hl [5, 6, 7, 2, 1, 0] rfl) rfl _ hF hp
    · have hF := it_p hc17 hF
      refine lv_iconst (v := 0) hx hb dX9_couldWrite_20 (by decide) ?_
      have hv := hF.trans hp
      exact W.zret hx hb hr rfl (fun t ht hW => ⟨_, rfl, ⟨hv, by rw [← hv]; exact rfl⟩, ht⟩) (fun q hq => by cases hq) dX9_couldWrite_21
  have hF := it_n hc16 hF
  by_cases hc21 : (F_X9_personAt f0 g0 a0 p1) = 4
  · have hF := it_p hc21 hF
    rw [kref_4 ad hc21]
    refine lv_astore (lv' := [(5, .ref (ad 12)), (0, .ref (ad 2)), (1, .int p1), (2, .int p2), (3, .int p3), (4, .int p4)]) hx hb dX9_couldWrite_5 hl (by decide) rfl (fun ls hl => ?_)
    refine lv_aload hx hb dX9_couldWrite_7 (lv_at hl 0 rfl) ?_
    refine lv_ifnull hx hb dX9_couldWrite_9 ?_
    refine lv_iload_n hx hb dX9_couldWrite_12 rfl (lv_at hl 3 rfl) ?_
    refine lv_iload_n hx hb dX9_couldWrite_13 rfl (lv_at hl 2 rfl) ?_
    refine lv_ishr hx hb dX9_couldWrite_14 ?_
    refine lv_iconst (v := 1) hx hb dX9_couldWrite_15 (by decide) ?_
    refine lv_iand hx hb dX9_couldWrite_16 ?_
    refine lv_if_ne (tgt := 22) hx hb dX9_couldWrite_17 (by decide) (fun hc22 => ?_) (fun hc22 => ?_)
    · have hF := it_n hc22 hF
      refine lv_iconst (v := 1) hx hb dX9_couldWrite_22 (by decide) ?_
      refine lv_iload_n hx hb dX9_couldWrite_23 rfl (lv_at hl 2 rfl) ?_
      refine lv_ishl hx hb dX9_couldWrite_24 ?_
      refine lv_istore (lv' := [(6, .int ((1 : Int32) <<< (p1 &&& 31))), (5, .ref (ad 12)), (0, .ref (ad 2)), (1, .int p1), (2, .int p2), (3, .int p3), (4, .int p4)]) hx hb dX9_couldWrite_25 hl (by decide) rfl (fun ls hl => ?_)
      refine lv_iload_n hx hb dX9_couldWrite_27 rfl (lv_at hl 4 rfl) ?_
      refine lv_aload_n hx hb dX9_couldWrite_28 rfl (lv_at hl 2 rfl) ?_
      refine va_get (D := D) (ci := 9) (v := .ref (ad 3)) (C := RX9) (T := TX9) (N := 4) hx hb hts hiX9 hown hK hP 2 rfl rfl 0 (by decide) hf12 (fun _ h9 => h9) rfl dX9_couldWrite_29 ?_
      refine va_get (D := D) (ci := 3) (v := .ref (ad 16)) (C := RX3) (T := TX3) (N := 10) hx hb hts hiX3 hown hK hP 3 rfl rfl 2 (by decide) hf103 (fun _ h9 => h9) rfl dX9_couldWrite_32 ?_
      refine lv_iload_n hx hb dX9_couldWrite_35 rfl (lv_at hl 3 rfl) ?_
      refine kS_i (va_runSN (As := [.ref (ad 16), .int p1]) (rest := [.int p2]) ⟨hx, hb, hml, hown, hts⟩ (c_X11_at l hz D (tX ck) (wX ad ck f0 g0 a0) 16 3 rfl rfl (by decide) p1) ⟨va_cnB 2 hts gX9_couldWrite_X11_at_n95 rfl rfl rfl (hE.2.1 _ knX9_95) (hts (.initialized RX11) (by decide +kernel)) pX11_at ⟨Nat.le_of_ble_eq_true rfl, Nat.le_of_ble_eq_true rfl⟩, hts (.static yX11_at) (by decide +kernel), trivial⟩ (kR.preS hP hE) rfl rfl hl.1 rfl (lv_room (Nat.le_of_ble_eq_true rfl)) dX9_couldWrite_36 ⟨Nat.le_refl _, Nat.le_refl _⟩) ?_
      refine lv_iconst (v := (-1)) hx hb dX9_couldWrite_39 (by decide) ?_
      refine lv_ixor hx hb dX9_couldWrite_40 ?_
      refine lv_iand hx hb dX9_couldWrite_41 ?_
      refine lv_iload hx hb dX9_couldWrite_42 (lv_at hl 0 rfl) ?_
      refine lv_ior hx hb dX9_couldWrite_44 ?_
      refine lv_istore (lv' := [(7, .int ((p2 &&& ((F_at 5 (a0 16) p1) ^^^ (-1 : Int32))) ||| ((1 : Int32) <<< (p1 &&& 31)))), (6, .int ((1 : Int32) <<< (p1 &&& 31))), (5, .ref (ad 12)), (0, .ref (ad 2)), (1, .int p1), (2, .int p2), (3, .int p3), (4, .int p4)]) hx hb dX9_couldWrite_45 hl (by decide) rfl (fun ls hl => ?_)
      refine lv_iload hx hb dX9_couldWrite_47 (lv_at hl 0 rfl) ?_
      refine lv_iload_n hx hb dX9_couldWrite_49 rfl (lv_at hl 6 rfl) ?_
      refine lv_ishr hx hb dX9_couldWrite_50 ?_
      refine lv_iconst (v := 1) hx hb dX9_couldWrite_51 (by decide) ?_
      refine lv_iand hx hb dX9_couldWrite_52 ?_
      refine lv_iconst (v := 1) hx hb dX9_couldWrite_53 (by decide) ?_
      refine lv_icmp_ne (tgt := 61) hx hb dX9_couldWrite_54 (by decide) (fun hc23 => ?_) (fun hc23 => ?_)
      · have hF := it_n hc23 hF
        refine lv_iconst (v := 0) hx hb dX9_couldWrite_61 (by decide) ?_
        exact hN_62v4 p2 p3 p4 ((1 : Int32) <<< (p1 &&& 31)) ((p2 &&& ((F_at 5 (a0 16) p1) ^^^ (-1 : Int32))) ||| ((1 : Int32) <<< (p1 &&& 31))) 0 ls (lv_sub hl [5, 6, 7, 2, 1, 0] rfl) rfl _ hF hp
      · have hF := it_p hc23 hF
        refine lv_iconst (v := 1) hx hb dX9_couldWrite_57 (by decide) ?_
        refine lv_goto (tgt := 62) hx hb dX9_couldWrite_58 (by decide) ?_
        exact hN_62v4 p2 p3 p4 ((1 : Int32) <<< (p1 &&& 31)) ((p2 &&& ((F_at 5 (a0 16) p1) ^^^ (-1 : Int32))) ||| ((1 : Int32) <<< (p1 &&& 31))) 1 ls (lv_sub hl [5, 6, 7, 2, 1, 0] rfl) rfl _ hF hp
    · have hF := it_p hc22 hF
      refine lv_iconst (v := 0) hx hb dX9_couldWrite_20 (by decide) ?_
      have hv := hF.trans hp
      exact W.zret hx hb hr rfl (fun t ht hW => ⟨_, rfl, ⟨hv, by rw [← hv]; exact rfl⟩, ht⟩) (fun q hq => by cases hq) dX9_couldWrite_21
  have hF := it_n hc21 hF
  rw [kref_n ad hc1 hc6 hc11 hc16 hc21]
  refine lv_astoreN (lv' := [(5, .null), (0, .ref (ad 2)), (1, .int p1), (2, .int p2), (3, .int p3), (4, .int p4)]) hx hb dX9_couldWrite_5 hl (by decide) rfl (fun ls hl => ?_)
  refine lv_aloadN hx hb dX9_couldWrite_7 (lv_at hl 0 rfl) ?_
  refine lv_ifnullN (tgt := 20) hx hb dX9_couldWrite_9 (by decide) ?_
  refine lv_iconst (v := 0) hx hb dX9_couldWrite_20 (by decide) ?_
  have hv := hF.trans hp
  exact W.zret hx hb hr rfl (fun t ht hW => ⟨_, rfl, ⟨hv, by rw [← hv]; exact rfl⟩, ht⟩) (fun q hq => by cases hq) dX9_couldWrite_21

def N_X9_companyIn_40 (f0 : Nat → Int32) (g0 : Nat → Int64) (a0 : Nat → Nat → Int32) (x1_12 : Int32) (x3_12 : Int32) (x4_40 : Int32) (x5_40 : Int32) : Option ((Int32 × Int32) ⊕ Int32) := some (.inl (x4_40, (x5_40 + 1)))
def B_X9_companyIn_12 (f0 : Nat → Int32) (g0 : Nat → Int64) (a0 : Nat → Nat → Int32) (x1_12 : Int32) (x3_12 : Int32) (x4_12 : Int32) (x5_12 : Int32) : Option ((Int32 × Int32) ⊕ Int32) := if (f0 5) ≤ x5_12 then Option.map Sum.inr (some x4_12) else if (F_X11_roomIn x1_12 x5_12) = x3_12 then N_X9_companyIn_40 f0 g0 a0 x1_12 x3_12 (x4_12 ||| ((1 : Int32) <<< (x5_12 &&& 31))) x5_12 else N_X9_companyIn_40 f0 g0 a0 x1_12 x3_12 x4_12 x5_12
def N_X9_companyIn_12 (f0 : Nat → Int32) (g0 : Nat → Int64) (a0 : Nat → Nat → Int32) (x1_12 : Int32) (x3_12 : Int32) (x4_12 : Int32) (x5_12 : Int32) : Option Int32 := lpN (fun q12 : (Int32 × Int32) => B_X9_companyIn_12 f0 g0 a0 x1_12 x3_12 q12.1 q12.2) kFu (x4_12, x5_12)
def F_X9_companyIn (f0 : Nat → Int32) (g0 : Nat → Int64) (a0 : Nat → Nat → Int32) (p1 : Int32) (p2 : Int32) : Option Int32 := N_X9_companyIn_12 f0 g0 a0 p1 (F_X11_roomIn p1 p2) 0 0
set_option maxHeartbeats 4000000 in
set_option maxRecDepth 100000 in
theorem c_X9_companyIn (l : Launch) (hz : Nat) (D : va_G) (ad : Nat → Nat) (ck : Nat → ClassId) (f0 : Nat → Int32) (g0 : Nat → Int64) (a0 : Nat → Nat → Int32) (p1 : Int32) (p2 : Int32) (out : Int32) (hF : F_X9_companyIn f0 g0 a0 p1 p2 = some out) : Met l yX9_companyIn wsX9_companyIn ({ frames := 2, cells := 0, slots := 0, locals := 41 }) (kR hz D vwCl (tX ck) (wX ad ck f0 g0 a0) [.ref (ad 2), .int p1, .int p2]) (kZi out) 0 0 (fun _ => False) := by
  refine Met.ofW (cc := cX9_companyIn) (maxL := 6) (ret := (some .int)) (by decide) rfl ?_
  intro p e s m args below meth c s₁ B hml hv
  obtain ⟨rfl, hP, hE⟩ := hv
  have hx := B.exec
  have hb := B.bytes
  have hr := B.returns
  have hts := atoms_spec (ws := wsX9_companyIn) B.pre
  have hown : s.vm.findClass RX9 = some m.cls := findClass_of_methodNamed B.named
  have hlocks := B.notSynchronized
  have hK := hE.1
  have hiX9 : ∀ w ∈ u_ws RX9 TX9 4, w ∈ wsX9_companyIn := by decide +kernel
  have hf56 := hts (.fieldLink RX9 56 "SpeltByFriends$Town" "size" "I") (by decide +kernel)
  have hN_12 : ∀ (x1_12 : Int32) (x3_12 : Int32) (n12 : Nat) (x4_12 : Int32) (x5_12 : Int32) (ls : Array Slot), lv_has ls 6 [(0, .ref (ad 2)), (1, .int x1_12), (3, .int x3_12), (4, .int x4_12), (5, .int x5_12)] → ∀ r : Int32, lpN (fun q12 : (Int32 × Int32) => B_X9_companyIn_12 f0 g0 a0 x1_12 x3_12 q12.1 q12.2) n12 (x4_12, x5_12) = some r → (fun r => r = out) r → W p l e (headSpec wsX9_companyIn ({ frames := 2, cells := 0, slots := 0, locals := 41 })).room s m [.ref (ad 2), .int p1, .int p2].toArray below meth c s.heap [] 0 0 (MQ below (kZi out) [.ref (ad 2), .int p1, .int p2].toArray s 0 0 (fun _ => False)) (F0 m 12 ls []) := by
    intro x1_12 x3_12 n12
    induction n12 with
    | zero => intro x4_12 x5_12 ls hl r hF hp; exact (lp_z hF).elim
    | succ n12 ih12 =>
      intro x4_12 x5_12 ls hl r hF hp
      obtain ⟨rs, hF, hp⟩ := lpN_K (P := (fun r => r = out)) hF hp
      have hN_40 : ∀ (x4_40 : Int32) (x5_40 : Int32) (ls : Array Slot), lv_has ls 6 [(0, .ref (ad 2)), (1, .int x1_12), (3, .int x3_12), (4, .int x4_40), (5, .int x5_40)] → ∀ r : ((Int32 × Int32) ⊕ Int32), N_X9_companyIn_40 f0 g0 a0 x1_12 x3_12 x4_40 x5_40 = some r → (lpK (fun q12 : (Int32 × Int32) => B_X9_companyIn_12 f0 g0 a0 x1_12 x3_12 q12.1 q12.2) n12 (fun r => r = out)) r → W p l e (headSpec wsX9_companyIn ({ frames := 2, cells := 0, slots := 0, locals := 41 })).room s m [.ref (ad 2), .int p1, .int p2].toArray below meth c s.heap [] 0 0 (MQ below (kZi out) [.ref (ad 2), .int p1, .int p2].toArray s 0 0 (fun _ => False)) (F0 m 40 ls []) := by
        intro x4_40 x5_40 ls hl r hF hp
        unfold N_X9_companyIn_40 at hF
        refine lv_iinc (v := (x5_40 + 1)) (lv' := [(5, .int (x5_40 + 1)), (0, .ref (ad 2)), (1, .int x1_12), (3, .int x3_12), (4, .int x4_40)]) hx hb dX9_companyIn_40 hl (k := 4) rfl rfl (by decide) rfl (fun ls hl => ?_)
        refine lv_goto (tgt := 12) hx hb dX9_companyIn_43 (by decide) ?_
        have hF := Option.some.inj hF
        subst hF
        obtain ⟨r, hF, hp⟩ := hp
        exact ih12 x4_40 (x5_40 + 1) ls (lv_sub hl [1, 2, 3, 4, 0] rfl) r hF hp
      unfold B_X9_companyIn_12 at hF
      refine lv_iload hx hb dX9_companyIn_12 (lv_at hl 4 rfl) ?_
      refine lv_aload_n hx hb dX9_companyIn_14 rfl (lv_at hl 0 rfl) ?_
      refine va_get (D := D) (ci := 9) (v := .int (f0 5)) (C := RX9) (T := TX9) (N := 4) hx hb hts hiX9 hown hK hP 2 rfl rfl 3 (by decide) hf56 (fun _ h9 => h9) rfl dX9_companyIn_15 ?_
      refine lv_icmp_ge (tgt := 46) hx hb dX9_companyIn_18 (by decide) (fun hc1 => ?_) (fun hc1 => ?_)
      · have hF := it_p hc1 hF
        obtain ⟨r, hF1, hr0⟩ := mp_s hF
        clear hF
        subst hr0
        have hF := hF1
        clear hF1
        have hp : (fun r => r = out) r := hp
        refine lv_iload hx hb dX9_companyIn_46 (lv_at hl 3 rfl) ?_
        exact W.iret hx hb hr (fun t ht hW => ⟨_, rfl, (Option.some.inj hF).trans hp, ht⟩) (fun q hq => by cases hq) dX9_companyIn_48
      · have hF := it_n hc1 hF
        refine lv_iload_n hx hb dX9_companyIn_21 rfl (lv_at hl 1 rfl) ?_
        refine lv_iload hx hb dX9_companyIn_22 (lv_at hl 4 rfl) ?_
        refine kS_i (va_runSN (As := [.int x1_12, .int x5_12]) (rest := []) ⟨hx, hb, hml, hown, hts⟩ (c_X11_roomIn l hz D (tX ck) x1_12 x5_12) ⟨va_cnB 2 hts gX9_companyIn_X11_roomIn_n92 rfl rfl rfl (hE.2.1 _ knX9_92) (hts (.initialized RX11) (by decide +kernel)) pX11_roomIn ⟨Nat.le_of_ble_eq_true rfl, Nat.le_of_ble_eq_true rfl⟩, hts (.static yX11_roomIn) (by decide +kernel), trivial⟩ (kR.preS kP_nil hE) rfl rfl hl.1 rfl (lv_room (Nat.le_of_ble_eq_true rfl)) dX9_companyIn_24 ⟨Nat.le_refl _, Nat.le_refl _⟩) ?_
        refine lv_iload_n hx hb dX9_companyIn_27 rfl (lv_at hl 2 rfl) ?_
        refine lv_icmp_ne (tgt := 40) hx hb dX9_companyIn_28 (by decide) (fun hc2 => ?_) (fun hc2 => ?_)
        · have hF := it_n hc2 hF
          exact hN_40 x4_12 x5_12 ls (lv_sub hl [0, 1, 2, 3, 4] rfl) _ hF hp
        · have hF := it_p hc2 hF
          refine lv_iload hx hb dX9_companyIn_31 (lv_at hl 3 rfl) ?_
          refine lv_iconst (v := 1) hx hb dX9_companyIn_33 (by decide) ?_
          refine lv_iload hx hb dX9_companyIn_34 (lv_at hl 4 rfl) ?_
          refine lv_ishl hx hb dX9_companyIn_36 ?_
          refine lv_ior hx hb dX9_companyIn_37 ?_
          refine lv_istore (lv' := [(4, .int (x4_12 ||| ((1 : Int32) <<< (x5_12 &&& 31)))), (0, .ref (ad 2)), (1, .int x1_12), (3, .int x3_12), (5, .int x5_12)]) hx hb dX9_companyIn_38 hl (by decide) rfl (fun ls hl => ?_)
          exact hN_40 (x4_12 ||| ((1 : Int32) <<< (x5_12 &&& 31))) x5_12 ls (lv_sub hl [1, 2, 3, 0, 4] rfl) _ hF hp
  have hl := lv_entry ([.ref (ad 2), .int p1, .int p2]) (n := 6) (Nat.le_of_ble_eq_true rfl)
  rw [lg_entry_eq]
  generalize (lg_sl ([.ref (ad 2), .int p1, .int p2]) ++ List.replicate (6 - (lg_sl ([.ref (ad 2), .int p1, .int p2])).length) Slot.unset).toArray = ls at hl ⊢
  have hl : lv_has ls 6 [(0, .ref (ad 2)), (1, .int p1), (2, .int p2)] := hl
  obtain ⟨r, hF, hp⟩ : ∃ r, F_X9_companyIn f0 g0 a0 p1 p2 = some r ∧ r = out := ⟨out, hF, rfl⟩
  unfold F_X9_companyIn at hF
  refine lv_iload_n hx hb dX9_companyIn_0 rfl (lv_at hl 1 rfl) ?_
  refine lv_iload_n hx hb dX9_companyIn_1 rfl (lv_at hl 2 rfl) ?_
  refine kS_i (va_runSN (As := [.int p1, .int p2]) (rest := []) ⟨hx, hb, hml, hown, hts⟩ (c_X11_roomIn l hz D (tX ck) p1 p2) ⟨va_cnB 2 hts gX9_companyIn_X11_roomIn_n92 rfl rfl rfl (hE.2.1 _ knX9_92) (hts (.initialized RX11) (by decide +kernel)) pX11_roomIn ⟨Nat.le_of_ble_eq_true rfl, Nat.le_of_ble_eq_true rfl⟩, hts (.static yX11_roomIn) (by decide +kernel), trivial⟩ (kR.preS kP_nil hE) rfl rfl hl.1 rfl (lv_room (Nat.le_of_ble_eq_true rfl)) dX9_companyIn_2 ⟨Nat.le_refl _, Nat.le_refl _⟩) ?_
  refine lv_istore_n (lv' := [(3, .int (F_X11_roomIn p1 p2)), (0, .ref (ad 2)), (1, .int p1), (2, .int p2)]) hx hb dX9_companyIn_5 rfl hl (by decide) rfl (fun ls hl => ?_)
  refine lv_iconst (v := 0) hx hb dX9_companyIn_6 (by decide) ?_
  refine lv_istore (lv' := [(4, .int 0), (3, .int (F_X11_roomIn p1 p2)), (0, .ref (ad 2)), (1, .int p1), (2, .int p2)]) hx hb dX9_companyIn_7 hl (by decide) rfl (fun ls hl => ?_)
  refine lv_iconst (v := 0) hx hb dX9_companyIn_9 (by decide) ?_
  refine lv_istore (lv' := [(5, .int 0), (4, .int 0), (3, .int (F_X11_roomIn p1 p2)), (0, .ref (ad 2)), (1, .int p1), (2, .int p2)]) hx hb dX9_companyIn_10 hl (by decide) rfl (fun ls hl => ?_)
  exact hN_12 p1 (F_X11_roomIn p1 p2) kFu 0 0 ls (lv_sub hl [3, 4, 2, 1, 0] rfl) _ hF hp

def F_X9_canWrite (f0 : Nat → Int32) (g0 : Nat → Int64) (a0 : Nat → Nat → Int32) (p1 : Int32) (p2 : Int32) : Int32 := (F_X9_couldWrite f0 g0 a0 p1 p2 (F_at 5 (a0 14) p1) (F_at 5 (a0 15) p1))
set_option maxHeartbeats 4000000 in
set_option maxRecDepth 100000 in
theorem c_X9_canWrite (l : Launch) (hz : Nat) (D : va_G) (ad : Nat → Nat) (ck : Nat → ClassId) (f0 : Nat → Int32) (g0 : Nat → Int64) (a0 : Nat → Nat → Int32) (p1 : Int32) (p2 : Int32) : Met l yX9_canWrite wsX9_canWrite ({ frames := 3, cells := 0, slots := 0, locals := 72 }) (kR hz D vwCl (tX ck) (wX ad ck f0 g0 a0) [.ref (ad 2), .int p1, .int p2]) (kZb (F_X9_canWrite f0 g0 a0 p1 p2)) 0 0 (fun _ => False) := by
  generalize hF : F_X9_canWrite f0 g0 a0 p1 p2 = out
  refine Met.ofW (cc := cX9_canWrite) (maxL := 3) (ret := (some .boolean)) (by decide) rfl ?_
  intro p e s m args below meth c s₁ B hml hv
  obtain ⟨rfl, hP, hE⟩ := hv
  have hx := B.exec
  have hb := B.bytes
  have hr := B.returns
  have hts := atoms_spec (ws := wsX9_canWrite) B.pre
  have hown : s.vm.findClass RX9 = some m.cls := findClass_of_methodNamed B.named
  have hlocks := B.notSynchronized
  have hK := hE.1
  have hiX3 : ∀ w ∈ u_ws RX3 TX3 10, w ∈ wsX9_canWrite := by decide +kernel
  have hiX9 : ∀ w ∈ u_ws RX9 TX9 4, w ∈ wsX9_canWrite := by decide +kernel
  have hf12 := hts (.fieldLink RX9 12 "SpeltByFriends$Town" "ledger" "LSpeltByFriends$Ledger;") (by decide +kernel)
  have hf64 := hts (.fieldLink RX9 64 "SpeltByFriends$Ledger" "firstHolder" "[I") (by decide +kernel)
  have hf75 := hts (.fieldLink RX9 75 "SpeltByFriends$Ledger" "lastHolder" "[I") (by decide +kernel)
  have hl := lv_entry ([.ref (ad 2), .int p1, .int p2]) (n := 3) (Nat.le_of_ble_eq_true rfl)
  rw [lg_entry_eq]
  generalize (lg_sl ([.ref (ad 2), .int p1, .int p2]) ++ List.replicate (3 - (lg_sl ([.ref (ad 2), .int p1, .int p2])).length) Slot.unset).toArray = ls at hl ⊢
  have hl : lv_has ls 3 [(0, .ref (ad 2)), (1, .int p1), (2, .int p2)] := hl
  obtain ⟨r, hF, hp⟩ : ∃ r, F_X9_canWrite f0 g0 a0 p1 p2 = r ∧ r = out := ⟨out, hF, rfl⟩
  unfold F_X9_canWrite at hF
  refine lv_aload_n hx hb dX9_canWrite_0 rfl (lv_at hl 0 rfl) ?_
  refine lv_iload_n hx hb dX9_canWrite_1 rfl (lv_at hl 1 rfl) ?_
  refine lv_iload_n hx hb dX9_canWrite_2 rfl (lv_at hl 2 rfl) ?_
  refine lv_aload_n hx hb dX9_canWrite_3 rfl (lv_at hl 0 rfl) ?_
  refine va_get (D := D) (ci := 9) (v := .ref (ad 3)) (C := RX9) (T := TX9) (N := 4) hx hb hts hiX9 hown hK hP 2 rfl rfl 0 (by decide) hf12 (fun _ h9 => h9) rfl dX9_canWrite_4 ?_
  refine va_get (D := D) (ci := 3) (v := .ref (ad 14)) (C := RX3) (T := TX3) (N := 10) hx hb hts hiX3 hown hK hP 3 rfl rfl 0 (by decide) hf64 (fun _ h9 => h9) rfl dX9_canWrite_7 ?_
  refine lv_iload_n hx hb dX9_canWrite_10 rfl (lv_at hl 1 rfl) ?_
  refine kS_i (va_runSN (As := [.ref (ad 14), .int p1]) (rest := [.int p2, .int p1, .ref (ad 2)]) ⟨hx, hb, hml, hown, hts⟩ (c_X11_at l hz D (tX ck) (wX ad ck f0 g0 a0) 14 1 rfl rfl (by decide) p1) ⟨va_cnB 2 hts gX9_canWrite_X11_at_n95 rfl rfl rfl (hE.2.1 _ knX9_95) (hts (.initialized RX11) (by decide +kernel)) pX11_at ⟨Nat.le_of_ble_eq_true rfl, Nat.le_of_ble_eq_true rfl⟩, hts (.static yX11_at) (by decide +kernel), trivial⟩ (kR.preS hP hE) rfl rfl hl.1 rfl (lv_room (Nat.le_of_ble_eq_true rfl)) dX9_canWrite_11 ⟨Nat.le_refl _, Nat.le_refl _⟩) ?_
  refine lv_aload_n hx hb dX9_canWrite_14 rfl (lv_at hl 0 rfl) ?_
  refine va_get (D := D) (ci := 9) (v := .ref (ad 3)) (C := RX9) (T := TX9) (N := 4) hx hb hts hiX9 hown hK hP 2 rfl rfl 0 (by decide) hf12 (fun _ h9 => h9) rfl dX9_canWrite_15 ?_
  refine va_get (D := D) (ci := 3) (v := .ref (ad 15)) (C := RX3) (T := TX3) (N := 10) hx hb hts hiX3 hown hK hP 3 rfl rfl 1 (by decide) hf75 (fun _ h9 => h9) rfl dX9_canWrite_18 ?_
  refine lv_iload_n hx hb dX9_canWrite_21 rfl (lv_at hl 1 rfl) ?_
  refine kS_i (va_runSN (As := [.ref (ad 15), .int p1]) (rest := [.int (F_at 5 (a0 14) p1), .int p2, .int p1, .ref (ad 2)]) ⟨hx, hb, hml, hown, hts⟩ (c_X11_at l hz D (tX ck) (wX ad ck f0 g0 a0) 15 2 rfl rfl (by decide) p1) ⟨va_cnB 2 hts gX9_canWrite_X11_at_n95 rfl rfl rfl (hE.2.1 _ knX9_95) (hts (.initialized RX11) (by decide +kernel)) pX11_at ⟨Nat.le_of_ble_eq_true rfl, Nat.le_of_ble_eq_true rfl⟩, hts (.static yX11_at) (by decide +kernel), trivial⟩ (kR.preS hP hE) rfl rfl hl.1 rfl (lv_room (Nat.le_of_ble_eq_true rfl)) dX9_canWrite_22 ⟨Nat.le_refl _, Nat.le_refl _⟩) ?_
  refine kS_b (va_runV (As := [.int p1, .int p2, .int (F_at 5 (a0 14) p1), .int (F_at 5 (a0 15) p1)]) (rest := []) ⟨hx, hb, hml, hown, hts⟩ (c_X9_couldWrite l hz D ad ck f0 g0 a0 p1 p2 (F_at 5 (a0 14) p1) (F_at 5 (a0 15) p1)) (cwV 4 hts gX9_canWrite_X9_couldWrite rfl rfl rfl ⟨rfl, pX9_couldWrite⟩ ⟨Nat.le_of_ble_eq_true rfl, Nat.le_of_ble_eq_true rfl⟩) (kR.preV (va_recv hK hP (ci := 9) (q0 := 2) rfl rfl) hP hE) rfl rfl hl.1 rfl (lv_room (Nat.le_of_ble_eq_true rfl)) dX9_canWrite_25 ⟨Nat.le_refl _, Nat.le_refl _⟩) (fun hz1 => ?_)
  have hv := hF.trans hp
  exact W.zret hx hb hr hz1 (fun t ht hW => ⟨_, rfl, ⟨hv, by rw [← hv]; exact hz1⟩, ht⟩) (fun q hq => by cases hq) dX9_canWrite_28

def N_X9_howManyWritten_29 (f0 : Nat → Int32) (g0 : Nat → Int64) (a0 : Nat → Nat → Int32) (x1_4 : Int32) (x2_29 : Int32) (x3_29 : Int32) : Option ((Int32 × Int32) ⊕ Int32) := some (.inl (x2_29, (x3_29 + 1)))
def B_X9_howManyWritten_4 (f0 : Nat → Int32) (g0 : Nat → Int64) (a0 : Nat → Nat → Int32) (x1_4 : Int32) (x2_4 : Int32) (x3_4 : Int32) : Option ((Int32 × Int32) ⊕ Int32) := if (f0 5) ≤ x3_4 then Option.map Sum.inr (some x2_4) else (F_X9_companyIn f0 g0 a0 x1_4 x3_4).bind fun r2 => if (F_X9_canWrite f0 g0 a0 x3_4 r2) = 0 then N_X9_howManyWritten_29 f0 g0 a0 x1_4 x2_4 x3_4 else N_X9_howManyWritten_29 f0 g0 a0 x1_4 (x2_4 + 1) x3_4
def N_X9_howManyWritten_4 (f0 : Nat → Int32) (g0 : Nat → Int64) (a0 : Nat → Nat → Int32) (x1_4 : Int32) (x2_4 : Int32) (x3_4 : Int32) : Option Int32 := lpN (fun q4 : (Int32 × Int32) => B_X9_howManyWritten_4 f0 g0 a0 x1_4 q4.1 q4.2) kFu (x2_4, x3_4)
def F_X9_howManyWritten (f0 : Nat → Int32) (g0 : Nat → Int64) (a0 : Nat → Nat → Int32) (p1 : Int32) : Option Int32 := N_X9_howManyWritten_4 f0 g0 a0 p1 0 0
set_option maxHeartbeats 4000000 in
set_option maxRecDepth 100000 in
theorem c_X9_howManyWritten (l : Launch) (hz : Nat) (D : va_G) (ad : Nat → Nat) (ck : Nat → ClassId) (f0 : Nat → Int32) (g0 : Nat → Int64) (a0 : Nat → Nat → Int32) (p1 : Int32) (out : Int32) (hF : F_X9_howManyWritten f0 g0 a0 p1 = some out) : Met l yX9_howManyWritten wsX9_howManyWritten ({ frames := 4, cells := 0, slots := 0, locals := 94 }) (kR hz D vwCl (tX ck) (wX ad ck f0 g0 a0) [.ref (ad 2), .int p1]) (kZi out) 0 0 (fun _ => False) := by
  refine Met.ofW (cc := cX9_howManyWritten) (maxL := 4) (ret := (some .int)) (by decide) rfl ?_
  intro p e s m args below meth c s₁ B hml hv
  obtain ⟨rfl, hP, hE⟩ := hv
  have hx := B.exec
  have hb := B.bytes
  have hr := B.returns
  have hts := atoms_spec (ws := wsX9_howManyWritten) B.pre
  have hown : s.vm.findClass RX9 = some m.cls := findClass_of_methodNamed B.named
  have hlocks := B.notSynchronized
  have hK := hE.1
  have hiX9 : ∀ w ∈ u_ws RX9 TX9 4, w ∈ wsX9_howManyWritten := by decide +kernel
  have hf56 := hts (.fieldLink RX9 56 "SpeltByFriends$Town" "size" "I") (by decide +kernel)
  have hN_4 : ∀ (x1_4 : Int32) (n4 : Nat) (x2_4 : Int32) (x3_4 : Int32) (ls : Array Slot), lv_has ls 4 [(0, .ref (ad 2)), (1, .int x1_4), (2, .int x2_4), (3, .int x3_4)] → ∀ r : Int32, lpN (fun q4 : (Int32 × Int32) => B_X9_howManyWritten_4 f0 g0 a0 x1_4 q4.1 q4.2) n4 (x2_4, x3_4) = some r → (fun r => r = out) r → W p l e (headSpec wsX9_howManyWritten ({ frames := 4, cells := 0, slots := 0, locals := 94 })).room s m [.ref (ad 2), .int p1].toArray below meth c s.heap [] 0 0 (MQ below (kZi out) [.ref (ad 2), .int p1].toArray s 0 0 (fun _ => False)) (F0 m 4 ls []) := by
    intro x1_4 n4
    induction n4 with
    | zero => intro x2_4 x3_4 ls hl r hF hp; exact (lp_z hF).elim
    | succ n4 ih4 =>
      intro x2_4 x3_4 ls hl r hF hp
      obtain ⟨rs, hF, hp⟩ := lpN_K (P := (fun r => r = out)) hF hp
      have hN_29 : ∀ (x2_29 : Int32) (x3_29 : Int32) (ls : Array Slot), lv_has ls 4 [(0, .ref (ad 2)), (1, .int x1_4), (2, .int x2_29), (3, .int x3_29)] → ∀ r : ((Int32 × Int32) ⊕ Int32), N_X9_howManyWritten_29 f0 g0 a0 x1_4 x2_29 x3_29 = some r → (lpK (fun q4 : (Int32 × Int32) => B_X9_howManyWritten_4 f0 g0 a0 x1_4 q4.1 q4.2) n4 (fun r => r = out)) r → W p l e (headSpec wsX9_howManyWritten ({ frames := 4, cells := 0, slots := 0, locals := 94 })).room s m [.ref (ad 2), .int p1].toArray below meth c s.heap [] 0 0 (MQ below (kZi out) [.ref (ad 2), .int p1].toArray s 0 0 (fun _ => False)) (F0 m 29 ls []) := by
        intro x2_29 x3_29 ls hl r hF hp
        unfold N_X9_howManyWritten_29 at hF
        refine lv_iinc (v := (x3_29 + 1)) (lv' := [(3, .int (x3_29 + 1)), (0, .ref (ad 2)), (1, .int x1_4), (2, .int x2_29)]) hx hb dX9_howManyWritten_29 hl (k := 3) rfl rfl (by decide) rfl (fun ls hl => ?_)
        refine lv_goto (tgt := 4) hx hb dX9_howManyWritten_32 (by decide) ?_
        have hF := Option.some.inj hF
        subst hF
        obtain ⟨r, hF, hp⟩ := hp
        exact ih4 x2_29 (x3_29 + 1) ls (lv_sub hl [1, 2, 3, 0] rfl) r hF hp
      unfold B_X9_howManyWritten_4 at hF
      refine lv_iload_n hx hb dX9_howManyWritten_4 rfl (lv_at hl 3 rfl) ?_
      refine lv_aload_n hx hb dX9_howManyWritten_5 rfl (lv_at hl 0 rfl) ?_
      refine va_get (D := D) (ci := 9) (v := .int (f0 5)) (C := RX9) (T := TX9) (N := 4) hx hb hts hiX9 hown hK hP 2 rfl rfl 3 (by decide) hf56 (fun _ h9 => h9) rfl dX9_howManyWritten_6 ?_
      refine lv_icmp_ge (tgt := 35) hx hb dX9_howManyWritten_9 (by decide) (fun hc1 => ?_) (fun hc1 => ?_)
      · have hF := it_p hc1 hF
        obtain ⟨r, hF1, hr0⟩ := mp_s hF
        clear hF
        subst hr0
        have hF := hF1
        clear hF1
        have hp : (fun r => r = out) r := hp
        refine lv_iload_n hx hb dX9_howManyWritten_35 rfl (lv_at hl 2 rfl) ?_
        exact W.iret hx hb hr (fun t ht hW => ⟨_, rfl, (Option.some.inj hF).trans hp, ht⟩) (fun q hq => by cases hq) dX9_howManyWritten_36
      · have hF := it_n hc1 hF
        refine lv_aload_n hx hb dX9_howManyWritten_12 rfl (lv_at hl 0 rfl) ?_
        refine lv_iload_n hx hb dX9_howManyWritten_13 rfl (lv_at hl 3 rfl) ?_
        refine lv_aload_n hx hb dX9_howManyWritten_14 rfl (lv_at hl 0 rfl) ?_
        refine lv_iload_n hx hb dX9_howManyWritten_15 rfl (lv_at hl 1 rfl) ?_
        refine lv_iload_n hx hb dX9_howManyWritten_16 rfl (lv_at hl 3 rfl) ?_
        obtain ⟨r2, he2, hF⟩ := bd_s hF
        refine kS_i (va_runV (As := [.int x1_4, .int x3_4]) (rest := [.int x3_4, .ref (ad 2)]) ⟨hx, hb, hml, hown, hts⟩ (c_X9_companyIn l hz D ad ck f0 g0 a0 x1_4 x3_4 r2 he2) (cwV 2 hts gX9_howManyWritten_X9_companyIn rfl rfl rfl ⟨rfl, pX9_companyIn⟩ ⟨Nat.le_of_ble_eq_true rfl, Nat.le_of_ble_eq_true rfl⟩) (kR.preV (va_recv hK hP (ci := 9) (q0 := 2) rfl rfl) hP hE) rfl rfl hl.1 rfl (lv_room (Nat.le_of_ble_eq_true rfl)) dX9_howManyWritten_17 ⟨Nat.le_refl _, Nat.le_refl _⟩) ?_
        refine kS_b (va_runV (As := [.int x3_4, .int r2]) (rest := []) ⟨hx, hb, hml, hown, hts⟩ (c_X9_canWrite l hz D ad ck f0 g0 a0 x3_4 r2) (cwV 2 hts gX9_howManyWritten_X9_canWrite rfl rfl rfl ⟨rfl, pX9_canWrite⟩ ⟨Nat.le_of_ble_eq_true rfl, Nat.le_of_ble_eq_true rfl⟩) (kR.preV (va_recv hK hP (ci := 9) (q0 := 2) rfl rfl) hP hE) rfl rfl hl.1 rfl (lv_room (Nat.le_of_ble_eq_true rfl)) dX9_howManyWritten_20 ⟨Nat.le_refl _, Nat.le_refl _⟩) (fun hz3 => ?_)
        refine lv_if_eq (tgt := 29) hx hb dX9_howManyWritten_23 (by decide) (fun hc4 => ?_) (fun hc4 => ?_)
        · have hF := it_p hc4 hF
          exact hN_29 x2_4 x3_4 ls (lv_sub hl [0, 1, 2, 3] rfl) _ hF hp
        · have hF := it_n hc4 hF
          refine lv_iinc (v := (x2_4 + 1)) (lv' := [(2, .int (x2_4 + 1)), (0, .ref (ad 2)), (1, .int x1_4), (3, .int x3_4)]) hx hb dX9_howManyWritten_26 hl (k := 2) rfl rfl (by decide) rfl (fun ls hl => ?_)
          exact hN_29 (x2_4 + 1) x3_4 ls (lv_sub hl [1, 2, 0, 3] rfl) _ hF hp
  have hl := lv_entry ([.ref (ad 2), .int p1]) (n := 4) (Nat.le_of_ble_eq_true rfl)
  rw [lg_entry_eq]
  generalize (lg_sl ([.ref (ad 2), .int p1]) ++ List.replicate (4 - (lg_sl ([.ref (ad 2), .int p1])).length) Slot.unset).toArray = ls at hl ⊢
  have hl : lv_has ls 4 [(0, .ref (ad 2)), (1, .int p1)] := hl
  obtain ⟨r, hF, hp⟩ : ∃ r, F_X9_howManyWritten f0 g0 a0 p1 = some r ∧ r = out := ⟨out, hF, rfl⟩
  unfold F_X9_howManyWritten at hF
  refine lv_iconst (v := 0) hx hb dX9_howManyWritten_0 (by decide) ?_
  refine lv_istore_n (lv' := [(2, .int 0), (0, .ref (ad 2)), (1, .int p1)]) hx hb dX9_howManyWritten_1 rfl hl (by decide) rfl (fun ls hl => ?_)
  refine lv_iconst (v := 0) hx hb dX9_howManyWritten_2 (by decide) ?_
  refine lv_istore_n (lv' := [(3, .int 0), (2, .int 0), (0, .ref (ad 2)), (1, .int p1)]) hx hb dX9_howManyWritten_3 rfl hl (by decide) rfl (fun ls hl => ?_)
  exact hN_4 p1 kFu 0 0 ls (lv_sub hl [2, 3, 1, 0] rfl) _ hF hp

def B_X9_quarrellingPairs_4 (f0 : Nat → Int32) (g0 : Nat → Int64) (a0 : Nat → Nat → Int32) (x1_4 : Int32) (x2_4 : Int32) : Option ((Int32 × Int32) ⊕ Int32) := if (f0 5) ≤ x2_4 then Option.map Sum.inr (some (x1_4 / 2)) else some (.inl ((x1_4 + (F_J6_bitCount_0f7a4 (F_at 5 (a0 16) x2_4))), (x2_4 + 1)))
def N_X9_quarrellingPairs_4 (f0 : Nat → Int32) (g0 : Nat → Int64) (a0 : Nat → Nat → Int32) (x1_4 : Int32) (x2_4 : Int32) : Option Int32 := lpN (fun q4 : (Int32 × Int32) => B_X9_quarrellingPairs_4 f0 g0 a0 q4.1 q4.2) kFu (x1_4, x2_4)
def F_X9_quarrellingPairs (f0 : Nat → Int32) (g0 : Nat → Int64) (a0 : Nat → Nat → Int32) : Option Int32 := N_X9_quarrellingPairs_4 f0 g0 a0 0 0
set_option maxHeartbeats 4000000 in
set_option maxRecDepth 100000 in
theorem c_X9_quarrellingPairs (l : Launch) (hz : Nat) (D : va_G) (ad : Nat → Nat) (ck : Nat → ClassId) (f0 : Nat → Int32) (g0 : Nat → Int64) (a0 : Nat → Nat → Int32) (out : Int32) (hF : F_X9_quarrellingPairs f0 g0 a0 = some out) : Met l yX9_quarrellingPairs wsX9_quarrellingPairs ({ frames := 1, cells := 0, slots := 0, locals := 21 }) (kR hz D vwCl (tX ck) (wX ad ck f0 g0 a0) [.ref (ad 2)]) (kZi out) 0 0 (fun _ => False) := by
  refine Met.ofW (cc := cX9_quarrellingPairs) (maxL := 3) (ret := (some .int)) (by decide) rfl ?_
  intro p e s m args below meth c s₁ B hml hv
  obtain ⟨rfl, hP, hE⟩ := hv
  have hx := B.exec
  have hb := B.bytes
  have hr := B.returns
  have hts := atoms_spec (ws := wsX9_quarrellingPairs) B.pre
  have hown : s.vm.findClass RX9 = some m.cls := findClass_of_methodNamed B.named
  have hlocks := B.notSynchronized
  have hK := hE.1
  have hiX3 : ∀ w ∈ u_ws RX3 TX3 10, w ∈ wsX9_quarrellingPairs := by decide +kernel
  have hiX9 : ∀ w ∈ u_ws RX9 TX9 4, w ∈ wsX9_quarrellingPairs := by decide +kernel
  have hf12 := hts (.fieldLink RX9 12 "SpeltByFriends$Town" "ledger" "LSpeltByFriends$Ledger;") (by decide +kernel)
  have hf56 := hts (.fieldLink RX9 56 "SpeltByFriends$Town" "size" "I") (by decide +kernel)
  have hf103 := hts (.fieldLink RX9 103 "SpeltByFriends$Ledger" "foes" "[I") (by decide +kernel)
  have hN_4 : ∀ (n4 : Nat) (x1_4 : Int32) (x2_4 : Int32) (ls : Array Slot), lv_has ls 3 [(0, .ref (ad 2)), (1, .int x1_4), (2, .int x2_4)] → ∀ r : Int32, lpN (fun q4 : (Int32 × Int32) => B_X9_quarrellingPairs_4 f0 g0 a0 q4.1 q4.2) n4 (x1_4, x2_4) = some r → (fun r => r = out) r → W p l e (headSpec wsX9_quarrellingPairs ({ frames := 1, cells := 0, slots := 0, locals := 21 })).room s m [.ref (ad 2)].toArray below meth c s.heap [] 0 0 (MQ below (kZi out) [.ref (ad 2)].toArray s 0 0 (fun _ => False)) (F0 m 4 ls []) := by
    intro n4
    induction n4 with
    | zero => intro x1_4 x2_4 ls hl r hF hp; exact (lp_z hF).elim
    | succ n4 ih4 =>
      intro x1_4 x2_4 ls hl r hF hp
      obtain ⟨rs, hF, hp⟩ := lpN_K (P := (fun r => r = out)) hF hp
      unfold B_X9_quarrellingPairs_4 at hF
      refine lv_iload_n hx hb dX9_quarrellingPairs_4 rfl (lv_at hl 2 rfl) ?_
      refine lv_aload_n hx hb dX9_quarrellingPairs_5 rfl (lv_at hl 0 rfl) ?_
      refine va_get (D := D) (ci := 9) (v := .int (f0 5)) (C := RX9) (T := TX9) (N := 4) hx hb hts hiX9 hown hK hP 2 rfl rfl 3 (by decide) hf56 (fun _ h9 => h9) rfl dX9_quarrellingPairs_6 ?_
      refine lv_icmp_ge (tgt := 35) hx hb dX9_quarrellingPairs_9 (by decide) (fun hc1 => ?_) (fun hc1 => ?_)
      · have hF := it_p hc1 hF
        obtain ⟨r, hF1, hr0⟩ := mp_s hF
        clear hF
        subst hr0
        have hF := hF1
        clear hF1
        have hp : (fun r => r = out) r := hp
        refine lv_iload_n hx hb dX9_quarrellingPairs_35 rfl (lv_at hl 1 rfl) ?_
        refine lv_iconst (v := 2) hx hb dX9_quarrellingPairs_36 (by decide) ?_
        refine lv_idiv hx hb dX9_quarrellingPairs_37 (by decide) ?_
        exact W.iret hx hb hr (fun t ht hW => ⟨_, rfl, (Option.some.inj hF).trans hp, ht⟩) (fun q hq => by cases hq) dX9_quarrellingPairs_38
      · have hF := it_n hc1 hF
        refine lv_iload_n hx hb dX9_quarrellingPairs_12 rfl (lv_at hl 1 rfl) ?_
        refine lv_aload_n hx hb dX9_quarrellingPairs_13 rfl (lv_at hl 0 rfl) ?_
        refine va_get (D := D) (ci := 9) (v := .ref (ad 3)) (C := RX9) (T := TX9) (N := 4) hx hb hts hiX9 hown hK hP 2 rfl rfl 0 (by decide) hf12 (fun _ h9 => h9) rfl dX9_quarrellingPairs_14 ?_
        refine va_get (D := D) (ci := 3) (v := .ref (ad 16)) (C := RX3) (T := TX3) (N := 10) hx hb hts hiX3 hown hK hP 3 rfl rfl 2 (by decide) hf103 (fun _ h9 => h9) rfl dX9_quarrellingPairs_17 ?_
        refine lv_iload_n hx hb dX9_quarrellingPairs_20 rfl (lv_at hl 2 rfl) ?_
        refine kS_i (va_runSN (As := [.ref (ad 16), .int x2_4]) (rest := [.int x1_4]) ⟨hx, hb, hml, hown, hts⟩ (c_X11_at l hz D (tX ck) (wX ad ck f0 g0 a0) 16 3 rfl rfl (by decide) x2_4) ⟨va_cnB 2 hts gX9_quarrellingPairs_X11_at_n95 rfl rfl rfl (hE.2.1 _ knX9_95) (hts (.initialized RX11) (by decide +kernel)) pX11_at ⟨Nat.le_of_ble_eq_true rfl, Nat.le_of_ble_eq_true rfl⟩, hts (.static yX11_at) (by decide +kernel), trivial⟩ (kR.preS hP hE) rfl rfl hl.1 rfl (lv_room (Nat.le_of_ble_eq_true rfl)) dX9_quarrellingPairs_21 ⟨Nat.le_refl _, Nat.le_refl _⟩) ?_
        refine kS_i (va_runS (As := [.int (F_at 5 (a0 16) x2_4)]) (rest := [.int x1_4]) ⟨hx, hb, hml, hown, hts⟩ (c_J6_bitCount_0f7a4 l hz D (tX ck) (F_at 5 (a0 16) x2_4)) (va_cwS 1 hts gX9_quarrellingPairs_J6_bitCount_0f7a4 rfl rfl rfl pJ6_bitCount_0f7a4 ⟨Nat.le_of_ble_eq_true rfl, Nat.le_of_ble_eq_true rfl⟩) (kR.preS kP_nil hE) rfl rfl hl.1 rfl (lv_room (Nat.le_of_ble_eq_true rfl)) dX9_quarrellingPairs_24 ⟨Nat.le_refl _, Nat.le_refl _⟩) ?_
        refine lv_iadd hx hb dX9_quarrellingPairs_27 ?_
        refine lv_istore_n (lv' := [(1, .int (x1_4 + (F_J6_bitCount_0f7a4 (F_at 5 (a0 16) x2_4)))), (0, .ref (ad 2)), (2, .int x2_4)]) hx hb dX9_quarrellingPairs_28 rfl hl (by decide) rfl (fun ls hl => ?_)
        refine lv_iinc (v := (x2_4 + 1)) (lv' := [(2, .int (x2_4 + 1)), (1, .int (x1_4 + (F_J6_bitCount_0f7a4 (F_at 5 (a0 16) x2_4)))), (0, .ref (ad 2))]) hx hb dX9_quarrellingPairs_29 hl (k := 2) rfl rfl (by decide) rfl (fun ls hl => ?_)
        refine lv_goto (tgt := 4) hx hb dX9_quarrellingPairs_32 (by decide) ?_
        have hF := Option.some.inj hF
        subst hF
        obtain ⟨r, hF, hp⟩ := hp
        exact ih4 (x1_4 + (F_J6_bitCount_0f7a4 (F_at 5 (a0 16) x2_4))) (x2_4 + 1) ls (lv_sub hl [2, 1, 0] rfl) r hF hp
  have hl := lv_entry ([.ref (ad 2)]) (n := 3) (Nat.le_of_ble_eq_true rfl)
  rw [lg_entry_eq]
  generalize (lg_sl ([.ref (ad 2)]) ++ List.replicate (3 - (lg_sl ([.ref (ad 2)])).length) Slot.unset).toArray = ls at hl ⊢
  have hl : lv_has ls 3 [(0, .ref (ad 2))] := hl
  obtain ⟨r, hF, hp⟩ : ∃ r, F_X9_quarrellingPairs f0 g0 a0 = some r ∧ r = out := ⟨out, hF, rfl⟩
  unfold F_X9_quarrellingPairs at hF
  refine lv_iconst (v := 0) hx hb dX9_quarrellingPairs_0 (by decide) ?_
  refine lv_istore_n (lv' := [(1, .int 0), (0, .ref (ad 2))]) hx hb dX9_quarrellingPairs_1 rfl hl (by decide) rfl (fun ls hl => ?_)
  refine lv_iconst (v := 0) hx hb dX9_quarrellingPairs_2 (by decide) ?_
  refine lv_istore_n (lv' := [(2, .int 0), (1, .int 0), (0, .ref (ad 2))]) hx hb dX9_quarrellingPairs_3 rfl hl (by decide) rfl (fun ls hl => ?_)
  exact hN_4 kFu 0 0 ls (lv_sub hl [2, 1, 0] rfl) _ hF hp

def N_X9_lettersOfOthers_63 (f0 : Nat → Int32) (g0 : Nat → Int64) (a0 : Nat → Nat → Int32) (x1_4 : Int32) (x2_63 : Int32) (x3_63 : Int32) : Option ((Int32 × Int32) ⊕ Int32) := some (.inl (x2_63, (x3_63 + 1)))
def N_X9_lettersOfOthers_61 (f0 : Nat → Int32) (g0 : Nat → Int64) (a0 : Nat → Nat → Int32) (x1_4 : Int32) (x3_61 : Int32) (t0_61 : Int32) (t1_61 : Int32) : Option ((Int32 × Int32) ⊕ Int32) := N_X9_lettersOfOthers_63 f0 g0 a0 x1_4 (t1_61 + t0_61) x3_61
def N_X9_lettersOfOthers_38 (f0 : Nat → Int32) (g0 : Nat → Int64) (a0 : Nat → Nat → Int32) (x1_4 : Int32) (x3_38 : Int32) (t0_38 : Int32) (t1_38 : Int32) : Option ((Int32 × Int32) ⊕ Int32) := if (F_at 5 (a0 15) x3_38) = x1_4 then N_X9_lettersOfOthers_61 f0 g0 a0 x1_4 x3_38 1 (t1_38 + t0_38) else N_X9_lettersOfOthers_61 f0 g0 a0 x1_4 x3_38 0 (t1_38 + t0_38)
def B_X9_lettersOfOthers_4 (f0 : Nat → Int32) (g0 : Nat → Int64) (a0 : Nat → Nat → Int32) (x1_4 : Int32) (x2_4 : Int32) (x3_4 : Int32) : Option ((Int32 × Int32) ⊕ Int32) := if (f0 5) ≤ x3_4 then Option.map Sum.inr (some x2_4) else if x3_4 = x1_4 then N_X9_lettersOfOthers_63 f0 g0 a0 x1_4 x2_4 x3_4 else if (F_at 5 (a0 14) x3_4) = x1_4 then N_X9_lettersOfOthers_38 f0 g0 a0 x1_4 x3_4 1 x2_4 else N_X9_lettersOfOthers_38 f0 g0 a0 x1_4 x3_4 0 x2_4
def N_X9_lettersOfOthers_4 (f0 : Nat → Int32) (g0 : Nat → Int64) (a0 : Nat → Nat → Int32) (x1_4 : Int32) (x2_4 : Int32) (x3_4 : Int32) : Option Int32 := lpN (fun q4 : (Int32 × Int32) => B_X9_lettersOfOthers_4 f0 g0 a0 x1_4 q4.1 q4.2) kFu (x2_4, x3_4)
def F_X9_lettersOfOthers (f0 : Nat → Int32) (g0 : Nat → Int64) (a0 : Nat → Nat → Int32) (p1 : Int32) : Option Int32 := N_X9_lettersOfOthers_4 f0 g0 a0 p1 0 0
set_option maxHeartbeats 4000000 in
set_option maxRecDepth 100000 in
theorem c_X9_lettersOfOthers (l : Launch) (hz : Nat) (D : va_G) (ad : Nat → Nat) (ck : Nat → ClassId) (f0 : Nat → Int32) (g0 : Nat → Int64) (a0 : Nat → Nat → Int32) (p1 : Int32) (out : Int32) (hF : F_X9_lettersOfOthers f0 g0 a0 p1 = some out) : Met l yX9_lettersOfOthers wsX9_lettersOfOthers ({ frames := 1, cells := 0, slots := 0, locals := 21 }) (kR hz D vwCl (tX ck) (wX ad ck f0 g0 a0) [.ref (ad 2), .int p1]) (kZi out) 0 0 (fun _ => False) := by
  refine Met.ofW (cc := cX9_lettersOfOthers) (maxL := 4) (ret := (some .int)) (by decide) rfl ?_
  intro p e s m args below meth c s₁ B hml hv
  obtain ⟨rfl, hP, hE⟩ := hv
  have hx := B.exec
  have hb := B.bytes
  have hr := B.returns
  have hts := atoms_spec (ws := wsX9_lettersOfOthers) B.pre
  have hown : s.vm.findClass RX9 = some m.cls := findClass_of_methodNamed B.named
  have hlocks := B.notSynchronized
  have hK := hE.1
  have hiX3 : ∀ w ∈ u_ws RX3 TX3 10, w ∈ wsX9_lettersOfOthers := by decide +kernel
  have hiX9 : ∀ w ∈ u_ws RX9 TX9 4, w ∈ wsX9_lettersOfOthers := by decide +kernel
  have hf12 := hts (.fieldLink RX9 12 "SpeltByFriends$Town" "ledger" "LSpeltByFriends$Ledger;") (by decide +kernel)
  have hf56 := hts (.fieldLink RX9 56 "SpeltByFriends$Town" "size" "I") (by decide +kernel)
  have hf64 := hts (.fieldLink RX9 64 "SpeltByFriends$Ledger" "firstHolder" "[I") (by decide +kernel)
  have hf75 := hts (.fieldLink RX9 75 "SpeltByFriends$Ledger" "lastHolder" "[I") (by decide +kernel)
  have hN_4 : ∀ (x1_4 : Int32) (n4 : Nat) (x2_4 : Int32) (x3_4 : Int32) (ls : Array Slot), lv_has ls 4 [(0, .ref (ad 2)), (1, .int x1_4), (2, .int x2_4), (3, .int x3_4)] → ∀ r : Int32, lpN (fun q4 : (Int32 × Int32) => B_X9_lettersOfOthers_4 f0 g0 a0 x1_4 q4.1 q4.2) n4 (x2_4, x3_4) = some r → (fun r => r = out) r → W p l e (headSpec wsX9_lettersOfOthers ({ frames := 1, cells := 0, slots := 0, locals := 21 })).room s m [.ref (ad 2), .int p1].toArray below meth c s.heap [] 0 0 (MQ below (kZi out) [.ref (ad 2), .int p1].toArray s 0 0 (fun _ => False)) (F0 m 4 ls []) := by
    intro x1_4 n4
    induction n4 with
    | zero => intro x2_4 x3_4 ls hl r hF hp; exact (lp_z hF).elim
    | succ n4 ih4 =>
      intro x2_4 x3_4 ls hl r hF hp
      obtain ⟨rs, hF, hp⟩ := lpN_K (P := (fun r => r = out)) hF hp
      have hN_63 : ∀ (x2_63 : Int32) (x3_63 : Int32) (ls : Array Slot), lv_has ls 4 [(0, .ref (ad 2)), (1, .int x1_4), (2, .int x2_63), (3, .int x3_63)] → ∀ r : ((Int32 × Int32) ⊕ Int32), N_X9_lettersOfOthers_63 f0 g0 a0 x1_4 x2_63 x3_63 = some r → (lpK (fun q4 : (Int32 × Int32) => B_X9_lettersOfOthers_4 f0 g0 a0 x1_4 q4.1 q4.2) n4 (fun r => r = out)) r → W p l e (headSpec wsX9_lettersOfOthers ({ frames := 1, cells := 0, slots := 0, locals := 21 })).room s m [.ref (ad 2), .int p1].toArray below meth c s.heap [] 0 0 (MQ below (kZi out) [.ref (ad 2), .int p1].toArray s 0 0 (fun _ => False)) (F0 m 63 ls []) := by
        intro x2_63 x3_63 ls hl r hF hp
        unfold N_X9_lettersOfOthers_63 at hF
        refine lv_iinc (v := (x3_63 + 1)) (lv' := [(3, .int (x3_63 + 1)), (0, .ref (ad 2)), (1, .int x1_4), (2, .int x2_63)]) hx hb dX9_lettersOfOthers_63 hl (k := 3) rfl rfl (by decide) rfl (fun ls hl => ?_)
        refine lv_goto (tgt := 4) hx hb dX9_lettersOfOthers_66 (by decide) ?_
        have hF := Option.some.inj hF
        subst hF
        obtain ⟨r, hF, hp⟩ := hp
        exact ih4 x2_63 (x3_63 + 1) ls (lv_sub hl [1, 2, 3, 0] rfl) r hF hp
      have hN_61 : ∀ (x3_61 : Int32) (t0_61 : Int32) (t1_61 : Int32) (ls : Array Slot), lv_has ls 4 [(0, .ref (ad 2)), (1, .int x1_4), (3, .int x3_61)] → ∀ r : ((Int32 × Int32) ⊕ Int32), N_X9_lettersOfOthers_61 f0 g0 a0 x1_4 x3_61 t0_61 t1_61 = some r → (lpK (fun q4 : (Int32 × Int32) => B_X9_lettersOfOthers_4 f0 g0 a0 x1_4 q4.1 q4.2) n4 (fun r => r = out)) r → W p l e (headSpec wsX9_lettersOfOthers ({ frames := 1, cells := 0, slots := 0, locals := 21 })).room s m [.ref (ad 2), .int p1].toArray below meth c s.heap [] 0 0 (MQ below (kZi out) [.ref (ad 2), .int p1].toArray s 0 0 (fun _ => False)) (F0 m 61 ls [.int t0_61, .int t1_61]) := by
        intro x3_61 t0_61 t1_61 ls hl r hF hp
        unfold N_X9_lettersOfOthers_61 at hF
        refine lv_iadd hx hb dX9_lettersOfOthers_61 ?_
        refine lv_istore_n (lv' := [(2, .int (t1_61 + t0_61)), (0, .ref (ad 2)), (1, .int x1_4), (3, .int x3_61)]) hx hb dX9_lettersOfOthers_62 rfl hl (by decide) rfl (fun ls hl => ?_)
        exact hN_63 (t1_61 + t0_61) x3_61 ls (lv_sub hl [1, 2, 0, 3] rfl) _ hF hp
      have hN_38 : ∀ (x3_38 : Int32) (t0_38 : Int32) (t1_38 : Int32) (ls : Array Slot), lv_has ls 4 [(0, .ref (ad 2)), (1, .int x1_4), (3, .int x3_38)] → ∀ r : ((Int32 × Int32) ⊕ Int32), N_X9_lettersOfOthers_38 f0 g0 a0 x1_4 x3_38 t0_38 t1_38 = some r → (lpK (fun q4 : (Int32 × Int32) => B_X9_lettersOfOthers_4 f0 g0 a0 x1_4 q4.1 q4.2) n4 (fun r => r = out)) r → W p l e (headSpec wsX9_lettersOfOthers ({ frames := 1, cells := 0, slots := 0, locals := 21 })).room s m [.ref (ad 2), .int p1].toArray below meth c s.heap [] 0 0 (MQ below (kZi out) [.ref (ad 2), .int p1].toArray s 0 0 (fun _ => False)) (F0 m 38 ls [.int t0_38, .int t1_38]) := by
        intro x3_38 t0_38 t1_38 ls hl r hF hp
        unfold N_X9_lettersOfOthers_38 at hF
        refine lv_iadd hx hb dX9_lettersOfOthers_38 ?_
        refine lv_istore_n (lv' := [(2, .int (t1_38 + t0_38)), (0, .ref (ad 2)), (1, .int x1_4), (3, .int x3_38)]) hx hb dX9_lettersOfOthers_39 rfl hl (by decide) rfl (fun ls hl => ?_)
        refine lv_iload_n hx hb dX9_lettersOfOthers_40 rfl (lv_at hl 0 rfl) ?_
        refine lv_aload_n hx hb dX9_lettersOfOthers_41 rfl (lv_at hl 1 rfl) ?_
        refine va_get (D := D) (ci := 9) (v := .ref (ad 3)) (C := RX9) (T := TX9) (N := 4) hx hb hts hiX9 hown hK hP 2 rfl rfl 0 (by decide) hf12 (fun _ h9 => h9) rfl dX9_lettersOfOthers_42 ?_
        refine va_get (D := D) (ci := 3) (v := .ref (ad 15)) (C := RX3) (T := TX3) (N := 10) hx hb hts hiX3 hown hK hP 3 rfl rfl 1 (by decide) hf75 (fun _ h9 => h9) rfl dX9_lettersOfOthers_45 ?_
        refine lv_iload_n hx hb dX9_lettersOfOthers_48 rfl (lv_at hl 3 rfl) ?_
        refine kS_i (va_runSN (As := [.ref (ad 15), .int x3_38]) (rest := [.int (t1_38 + t0_38)]) ⟨hx, hb, hml, hown, hts⟩ (c_X11_at l hz D (tX ck) (wX ad ck f0 g0 a0) 15 2 rfl rfl (by decide) x3_38) ⟨va_cnB 2 hts gX9_lettersOfOthers_X11_at_n95 rfl rfl rfl (hE.2.1 _ knX9_95) (hts (.initialized RX11) (by decide +kernel)) pX11_at ⟨Nat.le_of_ble_eq_true rfl, Nat.le_of_ble_eq_true rfl⟩, hts (.static yX11_at) (by decide +kernel), trivial⟩ (kR.preS hP hE) rfl rfl hl.1 rfl (lv_room (Nat.le_of_ble_eq_true rfl)) dX9_lettersOfOthers_49 ⟨Nat.le_refl _, Nat.le_refl _⟩) ?_
        refine lv_iload_n hx hb dX9_lettersOfOthers_52 rfl (lv_at hl 2 rfl) ?_
        refine lv_icmp_ne (tgt := 60) hx hb dX9_lettersOfOthers_53 (by decide) (fun hc4 => ?_) (fun hc4 => ?_)
        · have hF := it_n hc4 hF
          refine lv_iconst (v := 0) hx hb dX9_lettersOfOthers_60 (by decide) ?_
          exact hN_61 x3_38 0 (t1_38 + t0_38) ls (lv_sub hl [1, 2, 3] rfl) _ hF hp
        · have hF := it_p hc4 hF
          refine lv_iconst (v := 1) hx hb dX9_lettersOfOthers_56 (by decide) ?_
          refine lv_goto (tgt := 61) hx hb dX9_lettersOfOthers_57 (by decide) ?_
          exact hN_61 x3_38 1 (t1_38 + t0_38) ls (lv_sub hl [1, 2, 3] rfl) _ hF hp
      unfold B_X9_lettersOfOthers_4 at hF
      refine lv_iload_n hx hb dX9_lettersOfOthers_4 rfl (lv_at hl 3 rfl) ?_
      refine lv_aload_n hx hb dX9_lettersOfOthers_5 rfl (lv_at hl 0 rfl) ?_
      refine va_get (D := D) (ci := 9) (v := .int (f0 5)) (C := RX9) (T := TX9) (N := 4) hx hb hts hiX9 hown hK hP 2 rfl rfl 3 (by decide) hf56 (fun _ h9 => h9) rfl dX9_lettersOfOthers_6 ?_
      refine lv_icmp_ge (tgt := 69) hx hb dX9_lettersOfOthers_9 (by decide) (fun hc1 => ?_) (fun hc1 => ?_)
      · have hF := it_p hc1 hF
        obtain ⟨r, hF1, hr0⟩ := mp_s hF
        clear hF
        subst hr0
        have hF := hF1
        clear hF1
        have hp : (fun r => r = out) r := hp
        refine lv_iload_n hx hb dX9_lettersOfOthers_69 rfl (lv_at hl 2 rfl) ?_
        exact W.iret hx hb hr (fun t ht hW => ⟨_, rfl, (Option.some.inj hF).trans hp, ht⟩) (fun q hq => by cases hq) dX9_lettersOfOthers_70
      · have hF := it_n hc1 hF
        refine lv_iload_n hx hb dX9_lettersOfOthers_12 rfl (lv_at hl 3 rfl) ?_
        refine lv_iload_n hx hb dX9_lettersOfOthers_13 rfl (lv_at hl 1 rfl) ?_
        refine lv_icmp_eq (tgt := 63) hx hb dX9_lettersOfOthers_14 (by decide) (fun hc2 => ?_) (fun hc2 => ?_)
        · have hF := it_p hc2 hF
          exact hN_63 x2_4 x3_4 ls (lv_sub hl [0, 1, 2, 3] rfl) _ hF hp
        · have hF := it_n hc2 hF
          refine lv_iload_n hx hb dX9_lettersOfOthers_17 rfl (lv_at hl 2 rfl) ?_
          refine lv_aload_n hx hb dX9_lettersOfOthers_18 rfl (lv_at hl 0 rfl) ?_
          refine va_get (D := D) (ci := 9) (v := .ref (ad 3)) (C := RX9) (T := TX9) (N := 4) hx hb hts hiX9 hown hK hP 2 rfl rfl 0 (by decide) hf12 (fun _ h9 => h9) rfl dX9_lettersOfOthers_19 ?_
          refine va_get (D := D) (ci := 3) (v := .ref (ad 14)) (C := RX3) (T := TX3) (N := 10) hx hb hts hiX3 hown hK hP 3 rfl rfl 0 (by decide) hf64 (fun _ h9 => h9) rfl dX9_lettersOfOthers_22 ?_
          refine lv_iload_n hx hb dX9_lettersOfOthers_25 rfl (lv_at hl 3 rfl) ?_
          refine kS_i (va_runSN (As := [.ref (ad 14), .int x3_4]) (rest := [.int x2_4]) ⟨hx, hb, hml, hown, hts⟩ (c_X11_at l hz D (tX ck) (wX ad ck f0 g0 a0) 14 1 rfl rfl (by decide) x3_4) ⟨va_cnB 2 hts gX9_lettersOfOthers_X11_at_n95 rfl rfl rfl (hE.2.1 _ knX9_95) (hts (.initialized RX11) (by decide +kernel)) pX11_at ⟨Nat.le_of_ble_eq_true rfl, Nat.le_of_ble_eq_true rfl⟩, hts (.static yX11_at) (by decide +kernel), trivial⟩ (kR.preS hP hE) rfl rfl hl.1 rfl (lv_room (Nat.le_of_ble_eq_true rfl)) dX9_lettersOfOthers_26 ⟨Nat.le_refl _, Nat.le_refl _⟩) ?_
          refine lv_iload_n hx hb dX9_lettersOfOthers_29 rfl (lv_at hl 1 rfl) ?_
          refine lv_icmp_ne (tgt := 37) hx hb dX9_lettersOfOthers_30 (by decide) (fun hc3 => ?_) (fun hc3 => ?_)
          · have hF := it_n hc3 hF
            refine lv_iconst (v := 0) hx hb dX9_lettersOfOthers_37 (by decide) ?_
            exact hN_38 x3_4 0 x2_4 ls (lv_sub hl [0, 1, 3] rfl) _ hF hp
          · have hF := it_p hc3 hF
            refine lv_iconst (v := 1) hx hb dX9_lettersOfOthers_33 (by decide) ?_
            refine lv_goto (tgt := 38) hx hb dX9_lettersOfOthers_34 (by decide) ?_
            exact hN_38 x3_4 1 x2_4 ls (lv_sub hl [0, 1, 3] rfl) _ hF hp
  have hl := lv_entry ([.ref (ad 2), .int p1]) (n := 4) (Nat.le_of_ble_eq_true rfl)
  rw [lg_entry_eq]
  generalize (lg_sl ([.ref (ad 2), .int p1]) ++ List.replicate (4 - (lg_sl ([.ref (ad 2), .int p1])).length) Slot.unset).toArray = ls at hl ⊢
  have hl : lv_has ls 4 [(0, .ref (ad 2)), (1, .int p1)] := hl
  obtain ⟨r, hF, hp⟩ : ∃ r, F_X9_lettersOfOthers f0 g0 a0 p1 = some r ∧ r = out := ⟨out, hF, rfl⟩
  unfold F_X9_lettersOfOthers at hF
  refine lv_iconst (v := 0) hx hb dX9_lettersOfOthers_0 (by decide) ?_
  refine lv_istore_n (lv' := [(2, .int 0), (0, .ref (ad 2)), (1, .int p1)]) hx hb dX9_lettersOfOthers_1 rfl hl (by decide) rfl (fun ls hl => ?_)
  refine lv_iconst (v := 0) hx hb dX9_lettersOfOthers_2 (by decide) ?_
  refine lv_istore_n (lv' := [(3, .int 0), (2, .int 0), (0, .ref (ad 2)), (1, .int p1)]) hx hb dX9_lettersOfOthers_3 rfl hl (by decide) rfl (fun ls hl => ?_)
  exact hN_4 p1 kFu 0 0 ls (lv_sub hl [2, 3, 1, 0] rfl) _ hF hp

def N_X9_wants_34 (f0 : Nat → Int32) (g0 : Nat → Int64) (a0 : Nat → Nat → Int32) (x1_11 : Int32) (x2_34 : Int32) (x3_34 : Int32) : Option ((Int32 × Int32) ⊕ Int32) := some (.inl (x2_34, (x3_34 + 1)))
def B_X9_wants_11 (f0 : Nat → Int32) (g0 : Nat → Int64) (a0 : Nat → Nat → Int32) (x1_11 : Int32) (x2_11 : Int32) (x3_11 : Int32) : Option ((Int32 × Int32) ⊕ Int32) := if ((1 : Int32) <<< ((f0 5) &&& 31)) ≤ x3_11 then Option.map Sum.inr (some (x2_11 &&& (((1 : Int32) <<< (x1_11 &&& 31)) ^^^ (-1 : Int32)))) else if (F_X9_canWrite f0 g0 a0 x1_11 x3_11) = 0 then N_X9_wants_34 f0 g0 a0 x1_11 x2_11 x3_11 else N_X9_wants_34 f0 g0 a0 x1_11 (x2_11 &&& x3_11) x3_11
def N_X9_wants_11 (f0 : Nat → Int32) (g0 : Nat → Int64) (a0 : Nat → Nat → Int32) (x1_11 : Int32) (x2_11 : Int32) (x3_11 : Int32) : Option Int32 := lpN (fun q11 : (Int32 × Int32) => B_X9_wants_11 f0 g0 a0 x1_11 q11.1 q11.2) kFu (x2_11, x3_11)
def F_X9_wants (f0 : Nat → Int32) (g0 : Nat → Int64) (a0 : Nat → Nat → Int32) (p1 : Int32) : Option Int32 := N_X9_wants_11 f0 g0 a0 p1 (((1 : Int32) <<< ((f0 5) &&& 31)) - (1 : Int32)) 0
set_option maxHeartbeats 4000000 in
set_option maxRecDepth 100000 in
theorem c_X9_wants (l : Launch) (hz : Nat) (D : va_G) (ad : Nat → Nat) (ck : Nat → ClassId) (f0 : Nat → Int32) (g0 : Nat → Int64) (a0 : Nat → Nat → Int32) (p1 : Int32) (out : Int32) (hF : F_X9_wants f0 g0 a0 p1 = some out) : Met l yX9_wants wsX9_wants ({ frames := 4, cells := 0, slots := 0, locals := 94 }) (kR hz D vwCl (tX ck) (wX ad ck f0 g0 a0) [.ref (ad 2), .int p1]) (kZi out) 0 0 (fun _ => False) := by
  refine Met.ofW (cc := cX9_wants) (maxL := 4) (ret := (some .int)) (by decide) rfl ?_
  intro p e s m args below meth c s₁ B hml hv
  obtain ⟨rfl, hP, hE⟩ := hv
  have hx := B.exec
  have hb := B.bytes
  have hr := B.returns
  have hts := atoms_spec (ws := wsX9_wants) B.pre
  have hown : s.vm.findClass RX9 = some m.cls := findClass_of_methodNamed B.named
  have hlocks := B.notSynchronized
  have hK := hE.1
  have hiX9 : ∀ w ∈ u_ws RX9 TX9 4, w ∈ wsX9_wants := by decide +kernel
  have hf56 := hts (.fieldLink RX9 56 "SpeltByFriends$Town" "size" "I") (by decide +kernel)
  have hN_11 : ∀ (x1_11 : Int32) (n11 : Nat) (x2_11 : Int32) (x3_11 : Int32) (ls : Array Slot), lv_has ls 4 [(0, .ref (ad 2)), (1, .int x1_11), (2, .int x2_11), (3, .int x3_11)] → ∀ r : Int32, lpN (fun q11 : (Int32 × Int32) => B_X9_wants_11 f0 g0 a0 x1_11 q11.1 q11.2) n11 (x2_11, x3_11) = some r → (fun r => r = out) r → W p l e (headSpec wsX9_wants ({ frames := 4, cells := 0, slots := 0, locals := 94 })).room s m [.ref (ad 2), .int p1].toArray below meth c s.heap [] 0 0 (MQ below (kZi out) [.ref (ad 2), .int p1].toArray s 0 0 (fun _ => False)) (F0 m 11 ls []) := by
    intro x1_11 n11
    induction n11 with
    | zero => intro x2_11 x3_11 ls hl r hF hp; exact (lp_z hF).elim
    | succ n11 ih11 =>
      intro x2_11 x3_11 ls hl r hF hp
      obtain ⟨rs, hF, hp⟩ := lpN_K (P := (fun r => r = out)) hF hp
      have hN_34 : ∀ (x2_34 : Int32) (x3_34 : Int32) (ls : Array Slot), lv_has ls 4 [(0, .ref (ad 2)), (1, .int x1_11), (2, .int x2_34), (3, .int x3_34)] → ∀ r : ((Int32 × Int32) ⊕ Int32), N_X9_wants_34 f0 g0 a0 x1_11 x2_34 x3_34 = some r → (lpK (fun q11 : (Int32 × Int32) => B_X9_wants_11 f0 g0 a0 x1_11 q11.1 q11.2) n11 (fun r => r = out)) r → W p l e (headSpec wsX9_wants ({ frames := 4, cells := 0, slots := 0, locals := 94 })).room s m [.ref (ad 2), .int p1].toArray below meth c s.heap [] 0 0 (MQ below (kZi out) [.ref (ad 2), .int p1].toArray s 0 0 (fun _ => False)) (F0 m 34 ls []) := by
        intro x2_34 x3_34 ls hl r hF hp
        unfold N_X9_wants_34 at hF
        refine lv_iinc (v := (x3_34 + 1)) (lv' := [(3, .int (x3_34 + 1)), (0, .ref (ad 2)), (1, .int x1_11), (2, .int x2_34)]) hx hb dX9_wants_34 hl (k := 3) rfl rfl (by decide) rfl (fun ls hl => ?_)
        refine lv_goto (tgt := 11) hx hb dX9_wants_37 (by decide) ?_
        have hF := Option.some.inj hF
        subst hF
        obtain ⟨r, hF, hp⟩ := hp
        exact ih11 x2_34 (x3_34 + 1) ls (lv_sub hl [1, 2, 3, 0] rfl) r hF hp
      unfold B_X9_wants_11 at hF
      refine lv_iload_n hx hb dX9_wants_11 rfl (lv_at hl 3 rfl) ?_
      refine lv_iconst (v := 1) hx hb dX9_wants_12 (by decide) ?_
      refine lv_aload_n hx hb dX9_wants_13 rfl (lv_at hl 0 rfl) ?_
      refine va_get (D := D) (ci := 9) (v := .int (f0 5)) (C := RX9) (T := TX9) (N := 4) hx hb hts hiX9 hown hK hP 2 rfl rfl 3 (by decide) hf56 (fun _ h9 => h9) rfl dX9_wants_14 ?_
      refine lv_ishl hx hb dX9_wants_17 ?_
      refine lv_icmp_ge (tgt := 40) hx hb dX9_wants_18 (by decide) (fun hc1 => ?_) (fun hc1 => ?_)
      · have hF := it_p hc1 hF
        obtain ⟨r, hF1, hr0⟩ := mp_s hF
        clear hF
        subst hr0
        have hF := hF1
        clear hF1
        have hp : (fun r => r = out) r := hp
        refine lv_iload_n hx hb dX9_wants_40 rfl (lv_at hl 2 rfl) ?_
        refine lv_iconst (v := 1) hx hb dX9_wants_41 (by decide) ?_
        refine lv_iload_n hx hb dX9_wants_42 rfl (lv_at hl 1 rfl) ?_
        refine lv_ishl hx hb dX9_wants_43 ?_
        refine lv_iconst (v := (-1)) hx hb dX9_wants_44 (by decide) ?_
        refine lv_ixor hx hb dX9_wants_45 ?_
        refine lv_iand hx hb dX9_wants_46 ?_
        exact W.iret hx hb hr (fun t ht hW => ⟨_, rfl, (Option.some.inj hF).trans hp, ht⟩) (fun q hq => by cases hq) dX9_wants_47
      · have hF := it_n hc1 hF
        refine lv_aload_n hx hb dX9_wants_21 rfl (lv_at hl 0 rfl) ?_
        refine lv_iload_n hx hb dX9_wants_22 rfl (lv_at hl 1 rfl) ?_
        refine lv_iload_n hx hb dX9_wants_23 rfl (lv_at hl 3 rfl) ?_
        refine kS_b (va_runV (As := [.int x1_11, .int x3_11]) (rest := []) ⟨hx, hb, hml, hown, hts⟩ (c_X9_canWrite l hz D ad ck f0 g0 a0 x1_11 x3_11) (cwV 2 hts gX9_wants_X9_canWrite rfl rfl rfl ⟨rfl, pX9_canWrite⟩ ⟨Nat.le_of_ble_eq_true rfl, Nat.le_of_ble_eq_true rfl⟩) (kR.preV (va_recv hK hP (ci := 9) (q0 := 2) rfl rfl) hP hE) rfl rfl hl.1 rfl (lv_room (Nat.le_of_ble_eq_true rfl)) dX9_wants_24 ⟨Nat.le_refl _, Nat.le_refl _⟩) (fun hz2 => ?_)
        refine lv_if_eq (tgt := 34) hx hb dX9_wants_27 (by decide) (fun hc3 => ?_) (fun hc3 => ?_)
        · have hF := it_p hc3 hF
          exact hN_34 x2_11 x3_11 ls (lv_sub hl [0, 1, 2, 3] rfl) _ hF hp
        · have hF := it_n hc3 hF
          refine lv_iload_n hx hb dX9_wants_30 rfl (lv_at hl 2 rfl) ?_
          refine lv_iload_n hx hb dX9_wants_31 rfl (lv_at hl 3 rfl) ?_
          refine lv_iand hx hb dX9_wants_32 ?_
          refine lv_istore_n (lv' := [(2, .int (x2_11 &&& x3_11)), (0, .ref (ad 2)), (1, .int x1_11), (3, .int x3_11)]) hx hb dX9_wants_33 rfl hl (by decide) rfl (fun ls hl => ?_)
          exact hN_34 (x2_11 &&& x3_11) x3_11 ls (lv_sub hl [1, 2, 0, 3] rfl) _ hF hp
  have hl := lv_entry ([.ref (ad 2), .int p1]) (n := 4) (Nat.le_of_ble_eq_true rfl)
  rw [lg_entry_eq]
  generalize (lg_sl ([.ref (ad 2), .int p1]) ++ List.replicate (4 - (lg_sl ([.ref (ad 2), .int p1])).length) Slot.unset).toArray = ls at hl ⊢
  have hl : lv_has ls 4 [(0, .ref (ad 2)), (1, .int p1)] := hl
  obtain ⟨r, hF, hp⟩ : ∃ r, F_X9_wants f0 g0 a0 p1 = some r ∧ r = out := ⟨out, hF, rfl⟩
  unfold F_X9_wants at hF
  refine lv_iconst (v := 1) hx hb dX9_wants_0 (by decide) ?_
  refine lv_aload_n hx hb dX9_wants_1 rfl (lv_at hl 0 rfl) ?_
  refine va_get (D := D) (ci := 9) (v := .int (f0 5)) (C := RX9) (T := TX9) (N := 4) hx hb hts hiX9 hown hK hP 2 rfl rfl 3 (by decide) hf56 (fun _ h9 => h9) rfl dX9_wants_2 ?_
  refine lv_ishl hx hb dX9_wants_5 ?_
  refine lv_iconst (v := 1) hx hb dX9_wants_6 (by decide) ?_
  refine lv_isub hx hb dX9_wants_7 ?_
  refine lv_istore_n (lv' := [(2, .int (((1 : Int32) <<< ((f0 5) &&& 31)) - (1 : Int32))), (0, .ref (ad 2)), (1, .int p1)]) hx hb dX9_wants_8 rfl hl (by decide) rfl (fun ls hl => ?_)
  refine lv_iconst (v := 0) hx hb dX9_wants_9 (by decide) ?_
  refine lv_istore_n (lv' := [(3, .int 0), (2, .int (((1 : Int32) <<< ((f0 5) &&& 31)) - (1 : Int32))), (0, .ref (ad 2)), (1, .int p1)]) hx hb dX9_wants_10 rfl hl (by decide) rfl (fun ls hl => ?_)
  exact hN_11 p1 kFu (((1 : Int32) <<< ((f0 5) &&& 31)) - (1 : Int32)) 0 ls (lv_sub hl [2, 3, 1, 0] rfl) _ hF hp

def F_X11_isOfKind_null (f0 : Nat → Int32) (g0 : Nat → Int64) (a0 : Nat → Nat → Int32) (p1 : Int32) : Int32 := if p1 = 0 then 0 else (if p1 = 1 then 0 else (if p1 = 2 then 0 else (if p1 = 3 then 0 else (if p1 = 4 then 0 else (0)))))
set_option maxHeartbeats 4000000 in
set_option maxRecDepth 100000 in
theorem c_X11_isOfKind_null (l : Launch) (hz : Nat) (D : va_G) (ad : Nat → Nat) (ck : Nat → ClassId) (f0 : Nat → Int32) (g0 : Nat → Int64) (a0 : Nat → Nat → Int32) (p1 : Int32) : Met l yX11_isOfKind wsX11_isOfKind ({ frames := 0, cells := 0, slots := 0, locals := 0 }) (kR hz D vwCl (tX ck) (wX ad ck f0 g0 a0) [.null, .int p1]) (kZb (F_X11_isOfKind_null f0 g0 a0 p1)) 0 0 (fun _ => False) := by
  generalize hF : F_X11_isOfKind_null f0 g0 a0 p1 = out
  refine Met.ofW (cc := cX11_isOfKind) (maxL := 2) (ret := (some .boolean)) (by decide) rfl ?_
  intro p e s m args below meth c s₁ B hml hv
  obtain ⟨rfl, hP, hE⟩ := hv
  have hx := B.exec
  have hb := B.bytes
  have hr := B.returns
  have hts := atoms_spec (ws := wsX11_isOfKind) B.pre
  have hown : s.vm.findClass RX11 = some m.cls := findClass_of_methodNamed B.named
  have hlocks := B.notSynchronized
  have hK := hE.1
  have hl := lv_entry ([.null, .int p1]) (n := 2) (Nat.le_of_ble_eq_true rfl)
  rw [lg_entry_eq]
  generalize (lg_sl ([.null, .int p1]) ++ List.replicate (2 - (lg_sl ([.null, .int p1])).length) Slot.unset).toArray = ls at hl ⊢
  have hl : lv_has ls 2 [(0, .null), (1, .int p1)] := hl
  obtain ⟨r, hF, hp⟩ : ∃ r, F_X11_isOfKind_null f0 g0 a0 p1 = r ∧ r = out := ⟨out, hF, rfl⟩
  unfold F_X11_isOfKind_null at hF
  refine lv_iload_n hx hb dX11_isOfKind_0 rfl (lv_at hl 1 rfl) ?_
  by_cases hc1 : p1 = 0
  · have hF := it_p hc1 hF
    refine lv_tableIn (tgt := 36) (off := 35) hx hb dX11_isOfKind_1 (by rw [hc1]; decide) (by rw [hc1]; decide) (by rw [hc1]; rfl) (by decide) ?_
    refine lv_aload_nN hx hb dX11_isOfKind_36 rfl (lv_at hl 0 rfl) ?_
    refine lv_ifnullN (tgt := 44) hx hb dX11_isOfKind_37 (by decide) ?_
    refine lv_iconst (v := 0) hx hb dX11_isOfKind_44 (by decide) ?_
    have hv := hF.trans hp
    exact W.zret hx hb hr rfl (fun t ht hW => ⟨_, rfl, ⟨hv, by rw [← hv]; exact rfl⟩, ht⟩) (fun q hq => by cases hq) dX11_isOfKind_45
  have hF := it_n hc1 hF
  by_cases hc2 : p1 = 1
  · have hF := it_p hc2 hF
    refine lv_tableIn (tgt := 46) (off := 45) hx hb dX11_isOfKind_1 (by rw [hc2]; decide) (by rw [hc2]; decide) (by rw [hc2]; rfl) (by decide) ?_
    refine lv_aload_nN hx hb dX11_isOfKind_46 rfl (lv_at hl 0 rfl) ?_
    refine lv_instN hx hb dX11_isOfKind_47 ?_
    have hv := hF.trans hp
    exact W.zret hx hb hr rfl (fun t ht hW => ⟨_, rfl, ⟨hv, by rw [← hv]; exact rfl⟩, ht⟩) (fun q hq => by cases hq) dX11_isOfKind_50
  have hF := it_n hc2 hF
  by_cases hc3 : p1 = 2
  · have hF := it_p hc3 hF
    refine lv_tableIn (tgt := 51) (off := 50) hx hb dX11_isOfKind_1 (by rw [hc3]; decide) (by rw [hc3]; decide) (by rw [hc3]; rfl) (by decide) ?_
    refine lv_aload_nN hx hb dX11_isOfKind_51 rfl (lv_at hl 0 rfl) ?_
    refine lv_instN hx hb dX11_isOfKind_52 ?_
    have hv := hF.trans hp
    exact W.zret hx hb hr rfl (fun t ht hW => ⟨_, rfl, ⟨hv, by rw [← hv]; exact rfl⟩, ht⟩) (fun q hq => by cases hq) dX11_isOfKind_55
  have hF := it_n hc3 hF
  by_cases hc4 : p1 = 3
  · have hF := it_p hc4 hF
    refine lv_tableIn (tgt := 56) (off := 55) hx hb dX11_isOfKind_1 (by rw [hc4]; decide) (by rw [hc4]; decide) (by rw [hc4]; rfl) (by decide) ?_
    refine lv_aload_nN hx hb dX11_isOfKind_56 rfl (lv_at hl 0 rfl) ?_
    refine lv_instN hx hb dX11_isOfKind_57 ?_
    have hv := hF.trans hp
    exact W.zret hx hb hr rfl (fun t ht hW => ⟨_, rfl, ⟨hv, by rw [← hv]; exact rfl⟩, ht⟩) (fun q hq => by cases hq) dX11_isOfKind_60
  have hF := it_n hc4 hF
  by_cases hc5 : p1 = 4
  · have hF := it_p hc5 hF
    refine lv_tableIn (tgt := 61) (off := 60) hx hb dX11_isOfKind_1 (by rw [hc5]; decide) (by rw [hc5]; decide) (by rw [hc5]; rfl) (by decide) ?_
    refine lv_aload_nN hx hb dX11_isOfKind_61 rfl (lv_at hl 0 rfl) ?_
    refine lv_instN hx hb dX11_isOfKind_62 ?_
    have hv := hF.trans hp
    exact W.zret hx hb hr rfl (fun t ht hW => ⟨_, rfl, ⟨hv, by rw [← hv]; exact rfl⟩, ht⟩) (fun q hq => by cases hq) dX11_isOfKind_65
  have hF := it_n hc5 hF
  refine lv_tableOut (tgt := 66) hx hb dX11_isOfKind_1 (by have z0 := lv_neT (a := 0) hc1 (by decide); have z1 := lv_neT (a := 1) hc2 (by decide); have z2 := lv_neT (a := 2) hc3 (by decide); have z3 := lv_neT (a := 3) hc4 (by decide); have z4 := lv_neT (a := 4) hc5 (by decide); omega) (by decide) ?_
  refine lv_iconst (v := 0) hx hb dX11_isOfKind_66 (by decide) ?_
  have hv := hF.trans hp
  exact W.zret hx hb hr rfl (fun t ht hW => ⟨_, rfl, ⟨hv, by rw [← hv]; exact rfl⟩, ht⟩) (fun q hq => by cases hq) dX11_isOfKind_67

def F_X11_isOfKind_8 (f0 : Nat → Int32) (g0 : Nat → Int64) (a0 : Nat → Nat → Int32) (p1 : Int32) : Int32 := if p1 = 0 then 1 else (if p1 = 1 then 0 else (if p1 = 2 then 0 else (if p1 = 3 then 0 else (if p1 = 4 then 0 else (0)))))
set_option maxHeartbeats 4000000 in
set_option maxRecDepth 100000 in
theorem c_X11_isOfKind_8 (l : Launch) (hz : Nat) (D : va_G) (ad : Nat → Nat) (ck : Nat → ClassId) (f0 : Nat → Int32) (g0 : Nat → Int64) (a0 : Nat → Nat → Int32) (p1 : Int32) : Met l yX11_isOfKind wsX11_isOfKind ({ frames := 0, cells := 0, slots := 0, locals := 0 }) (kR hz D vwCl (tX ck) (wX ad ck f0 g0 a0) [.ref (ad 8), .int p1]) (kZb (F_X11_isOfKind_8 f0 g0 a0 p1)) 0 0 (fun _ => False) := by
  generalize hF : F_X11_isOfKind_8 f0 g0 a0 p1 = out
  refine Met.ofW (cc := cX11_isOfKind) (maxL := 2) (ret := (some .boolean)) (by decide) rfl ?_
  intro p e s m args below meth c s₁ B hml hv
  obtain ⟨rfl, hP, hE⟩ := hv
  have hx := B.exec
  have hb := B.bytes
  have hr := B.returns
  have hts := atoms_spec (ws := wsX11_isOfKind) B.pre
  have hown : s.vm.findClass RX11 = some m.cls := findClass_of_methodNamed B.named
  have hlocks := B.notSynchronized
  have hK := hE.1
  have hl := lv_entry ([.ref (ad 8), .int p1]) (n := 2) (Nat.le_of_ble_eq_true rfl)
  rw [lg_entry_eq]
  generalize (lg_sl ([.ref (ad 8), .int p1]) ++ List.replicate (2 - (lg_sl ([.ref (ad 8), .int p1])).length) Slot.unset).toArray = ls at hl ⊢
  have hl : lv_has ls 2 [(0, .ref (ad 8)), (1, .int p1)] := hl
  obtain ⟨r, hF, hp⟩ : ∃ r, F_X11_isOfKind_8 f0 g0 a0 p1 = r ∧ r = out := ⟨out, hF, rfl⟩
  unfold F_X11_isOfKind_8 at hF
  refine lv_iload_n hx hb dX11_isOfKind_0 rfl (lv_at hl 1 rfl) ?_
  by_cases hc1 : p1 = 0
  · have hF := it_p hc1 hF
    refine lv_tableIn (tgt := 36) (off := 35) hx hb dX11_isOfKind_1 (by rw [hc1]; decide) (by rw [hc1]; decide) (by rw [hc1]; rfl) (by decide) ?_
    refine lv_aload_n hx hb dX11_isOfKind_36 rfl (lv_at hl 0 rfl) ?_
    refine lv_ifnull hx hb dX11_isOfKind_37 ?_
    refine lv_iconst (v := 1) hx hb dX11_isOfKind_40 (by decide) ?_
    refine lv_goto (tgt := 45) hx hb dX11_isOfKind_41 (by decide) ?_
    have hv := hF.trans hp
    exact W.zret hx hb hr rfl (fun t ht hW => ⟨_, rfl, ⟨hv, by rw [← hv]; exact rfl⟩, ht⟩) (fun q hq => by cases hq) dX11_isOfKind_45
  have hF := it_n hc1 hF
  by_cases hc2 : p1 = 1
  · have hF := it_p hc2 hF
    refine lv_tableIn (tgt := 46) (off := 45) hx hb dX11_isOfKind_1 (by rw [hc2]; decide) (by rw [hc2]; decide) (by rw [hc2]; rfl) (by decide) ?_
    refine lv_aload_n hx hb dX11_isOfKind_46 rfl (lv_at hl 0 rfl) ?_
    refine va_instNo hx hb hown (hts (.classLink RX11 231 "SpeltByFriends$Hermit") (by decide +kernel)) (hE.2.2.2 _ ncX6_X2) (va_recv hK hP (ci := 6) (q0 := 8) rfl rfl) dX11_isOfKind_47 ?_
    have hv := hF.trans hp
    exact W.zret hx hb hr rfl (fun t ht hW => ⟨_, rfl, ⟨hv, by rw [← hv]; exact rfl⟩, ht⟩) (fun q hq => by cases hq) dX11_isOfKind_50
  have hF := it_n hc2 hF
  by_cases hc3 : p1 = 2
  · have hF := it_p hc3 hF
    refine lv_tableIn (tgt := 51) (off := 50) hx hb dX11_isOfKind_1 (by rw [hc3]; decide) (by rw [hc3]; decide) (by rw [hc3]; rfl) (by decide) ?_
    refine lv_aload_n hx hb dX11_isOfKind_51 rfl (lv_at hl 0 rfl) ?_
    refine va_instNo hx hb hown (hts (.classLink RX11 233 "SpeltByFriends$Forger") (by decide +kernel)) (hE.2.2.2 _ ncX6_X0) (va_recv hK hP (ci := 6) (q0 := 8) rfl rfl) dX11_isOfKind_52 ?_
    have hv := hF.trans hp
    exact W.zret hx hb hr rfl (fun t ht hW => ⟨_, rfl, ⟨hv, by rw [← hv]; exact rfl⟩, ht⟩) (fun q hq => by cases hq) dX11_isOfKind_55
  have hF := it_n hc3 hF
  by_cases hc4 : p1 = 3
  · have hF := it_p hc4 hF
    refine lv_tableIn (tgt := 56) (off := 55) hx hb dX11_isOfKind_1 (by rw [hc4]; decide) (by rw [hc4]; decide) (by rw [hc4]; rfl) (by decide) ?_
    refine lv_aload_n hx hb dX11_isOfKind_56 rfl (lv_at hl 0 rfl) ?_
    refine va_instNo hx hb hown (hts (.classLink RX11 235 "SpeltByFriends$Proud") (by decide +kernel)) (hE.2.2.2 _ ncX6_X8) (va_recv hK hP (ci := 6) (q0 := 8) rfl rfl) dX11_isOfKind_57 ?_
    have hv := hF.trans hp
    exact W.zret hx hb hr rfl (fun t ht hW => ⟨_, rfl, ⟨hv, by rw [← hv]; exact rfl⟩, ht⟩) (fun q hq => by cases hq) dX11_isOfKind_60
  have hF := it_n hc4 hF
  by_cases hc5 : p1 = 4
  · have hF := it_p hc5 hF
    refine lv_tableIn (tgt := 61) (off := 60) hx hb dX11_isOfKind_1 (by rw [hc5]; decide) (by rw [hc5]; decide) (by rw [hc5]; rfl) (by decide) ?_
    refine lv_aload_n hx hb dX11_isOfKind_61 rfl (lv_at hl 0 rfl) ?_
    refine va_instNo hx hb hown (hts (.classLink RX11 237 "SpeltByFriends$Twin") (by decide +kernel)) (hE.2.2.2 _ ncX6_X10) (va_recv hK hP (ci := 6) (q0 := 8) rfl rfl) dX11_isOfKind_62 ?_
    have hv := hF.trans hp
    exact W.zret hx hb hr rfl (fun t ht hW => ⟨_, rfl, ⟨hv, by rw [← hv]; exact rfl⟩, ht⟩) (fun q hq => by cases hq) dX11_isOfKind_65
  have hF := it_n hc5 hF
  refine lv_tableOut (tgt := 66) hx hb dX11_isOfKind_1 (by have z0 := lv_neT (a := 0) hc1 (by decide); have z1 := lv_neT (a := 1) hc2 (by decide); have z2 := lv_neT (a := 2) hc3 (by decide); have z3 := lv_neT (a := 3) hc4 (by decide); have z4 := lv_neT (a := 4) hc5 (by decide); omega) (by decide) ?_
  refine lv_iconst (v := 0) hx hb dX11_isOfKind_66 (by decide) ?_
  have hv := hF.trans hp
  exact W.zret hx hb hr rfl (fun t ht hW => ⟨_, rfl, ⟨hv, by rw [← hv]; exact rfl⟩, ht⟩) (fun q hq => by cases hq) dX11_isOfKind_67

def F_X11_isOfKind_9 (f0 : Nat → Int32) (g0 : Nat → Int64) (a0 : Nat → Nat → Int32) (p1 : Int32) : Int32 := if p1 = 0 then 1 else (if p1 = 1 then 1 else (if p1 = 2 then 0 else (if p1 = 3 then 0 else (if p1 = 4 then 0 else (0)))))
set_option maxHeartbeats 4000000 in
set_option maxRecDepth 100000 in
theorem c_X11_isOfKind_9 (l : Launch) (hz : Nat) (D : va_G) (ad : Nat → Nat) (ck : Nat → ClassId) (f0 : Nat → Int32) (g0 : Nat → Int64) (a0 : Nat → Nat → Int32) (p1 : Int32) : Met l yX11_isOfKind wsX11_isOfKind ({ frames := 0, cells := 0, slots := 0, locals := 0 }) (kR hz D vwCl (tX ck) (wX ad ck f0 g0 a0) [.ref (ad 9), .int p1]) (kZb (F_X11_isOfKind_9 f0 g0 a0 p1)) 0 0 (fun _ => False) := by
  generalize hF : F_X11_isOfKind_9 f0 g0 a0 p1 = out
  refine Met.ofW (cc := cX11_isOfKind) (maxL := 2) (ret := (some .boolean)) (by decide) rfl ?_
  intro p e s m args below meth c s₁ B hml hv
  obtain ⟨rfl, hP, hE⟩ := hv
  have hx := B.exec
  have hb := B.bytes
  have hr := B.returns
  have hts := atoms_spec (ws := wsX11_isOfKind) B.pre
  have hown : s.vm.findClass RX11 = some m.cls := findClass_of_methodNamed B.named
  have hlocks := B.notSynchronized
  have hK := hE.1
  have hl := lv_entry ([.ref (ad 9), .int p1]) (n := 2) (Nat.le_of_ble_eq_true rfl)
  rw [lg_entry_eq]
  generalize (lg_sl ([.ref (ad 9), .int p1]) ++ List.replicate (2 - (lg_sl ([.ref (ad 9), .int p1])).length) Slot.unset).toArray = ls at hl ⊢
  have hl : lv_has ls 2 [(0, .ref (ad 9)), (1, .int p1)] := hl
  obtain ⟨r, hF, hp⟩ : ∃ r, F_X11_isOfKind_9 f0 g0 a0 p1 = r ∧ r = out := ⟨out, hF, rfl⟩
  unfold F_X11_isOfKind_9 at hF
  refine lv_iload_n hx hb dX11_isOfKind_0 rfl (lv_at hl 1 rfl) ?_
  by_cases hc1 : p1 = 0
  · have hF := it_p hc1 hF
    refine lv_tableIn (tgt := 36) (off := 35) hx hb dX11_isOfKind_1 (by rw [hc1]; decide) (by rw [hc1]; decide) (by rw [hc1]; rfl) (by decide) ?_
    refine lv_aload_n hx hb dX11_isOfKind_36 rfl (lv_at hl 0 rfl) ?_
    refine lv_ifnull hx hb dX11_isOfKind_37 ?_
    refine lv_iconst (v := 1) hx hb dX11_isOfKind_40 (by decide) ?_
    refine lv_goto (tgt := 45) hx hb dX11_isOfKind_41 (by decide) ?_
    have hv := hF.trans hp
    exact W.zret hx hb hr rfl (fun t ht hW => ⟨_, rfl, ⟨hv, by rw [← hv]; exact rfl⟩, ht⟩) (fun q hq => by cases hq) dX11_isOfKind_45
  have hF := it_n hc1 hF
  by_cases hc2 : p1 = 1
  · have hF := it_p hc2 hF
    refine lv_tableIn (tgt := 46) (off := 45) hx hb dX11_isOfKind_1 (by rw [hc2]; decide) (by rw [hc2]; decide) (by rw [hc2]; rfl) (by decide) ?_
    refine lv_aload_n hx hb dX11_isOfKind_46 rfl (lv_at hl 0 rfl) ?_
    refine va_instE hx hb hown (hts (.classLink RX11 231 "SpeltByFriends$Hermit") (by decide +kernel)) (va_recv hK hP (ci := 2) (q0 := 9) rfl rfl) dX11_isOfKind_47 ?_
    have hv := hF.trans hp
    exact W.zret hx hb hr rfl (fun t ht hW => ⟨_, rfl, ⟨hv, by rw [← hv]; exact rfl⟩, ht⟩) (fun q hq => by cases hq) dX11_isOfKind_50
  have hF := it_n hc2 hF
  by_cases hc3 : p1 = 2
  · have hF := it_p hc3 hF
    refine lv_tableIn (tgt := 51) (off := 50) hx hb dX11_isOfKind_1 (by rw [hc3]; decide) (by rw [hc3]; decide) (by rw [hc3]; rfl) (by decide) ?_
    refine lv_aload_n hx hb dX11_isOfKind_51 rfl (lv_at hl 0 rfl) ?_
    refine va_instNo hx hb hown (hts (.classLink RX11 233 "SpeltByFriends$Forger") (by decide +kernel)) (hE.2.2.2 _ ncX2_X0) (va_recv hK hP (ci := 2) (q0 := 9) rfl rfl) dX11_isOfKind_52 ?_
    have hv := hF.trans hp
    exact W.zret hx hb hr rfl (fun t ht hW => ⟨_, rfl, ⟨hv, by rw [← hv]; exact rfl⟩, ht⟩) (fun q hq => by cases hq) dX11_isOfKind_55
  have hF := it_n hc3 hF
  by_cases hc4 : p1 = 3
  · have hF := it_p hc4 hF
    refine lv_tableIn (tgt := 56) (off := 55) hx hb dX11_isOfKind_1 (by rw [hc4]; decide) (by rw [hc4]; decide) (by rw [hc4]; rfl) (by decide) ?_
    refine lv_aload_n hx hb dX11_isOfKind_56 rfl (lv_at hl 0 rfl) ?_
    refine va_instNo hx hb hown (hts (.classLink RX11 235 "SpeltByFriends$Proud") (by decide +kernel)) (hE.2.2.2 _ ncX2_X8) (va_recv hK hP (ci := 2) (q0 := 9) rfl rfl) dX11_isOfKind_57 ?_
    have hv := hF.trans hp
    exact W.zret hx hb hr rfl (fun t ht hW => ⟨_, rfl, ⟨hv, by rw [← hv]; exact rfl⟩, ht⟩) (fun q hq => by cases hq) dX11_isOfKind_60
  have hF := it_n hc4 hF
  by_cases hc5 : p1 = 4
  · have hF := it_p hc5 hF
    refine lv_tableIn (tgt := 61) (off := 60) hx hb dX11_isOfKind_1 (by rw [hc5]; decide) (by rw [hc5]; decide) (by rw [hc5]; rfl) (by decide) ?_
    refine lv_aload_n hx hb dX11_isOfKind_61 rfl (lv_at hl 0 rfl) ?_
    refine va_instNo hx hb hown (hts (.classLink RX11 237 "SpeltByFriends$Twin") (by decide +kernel)) (hE.2.2.2 _ ncX2_X10) (va_recv hK hP (ci := 2) (q0 := 9) rfl rfl) dX11_isOfKind_62 ?_
    have hv := hF.trans hp
    exact W.zret hx hb hr rfl (fun t ht hW => ⟨_, rfl, ⟨hv, by rw [← hv]; exact rfl⟩, ht⟩) (fun q hq => by cases hq) dX11_isOfKind_65
  have hF := it_n hc5 hF
  refine lv_tableOut (tgt := 66) hx hb dX11_isOfKind_1 (by have z0 := lv_neT (a := 0) hc1 (by decide); have z1 := lv_neT (a := 1) hc2 (by decide); have z2 := lv_neT (a := 2) hc3 (by decide); have z3 := lv_neT (a := 3) hc4 (by decide); have z4 := lv_neT (a := 4) hc5 (by decide); omega) (by decide) ?_
  refine lv_iconst (v := 0) hx hb dX11_isOfKind_66 (by decide) ?_
  have hv := hF.trans hp
  exact W.zret hx hb hr rfl (fun t ht hW => ⟨_, rfl, ⟨hv, by rw [← hv]; exact rfl⟩, ht⟩) (fun q hq => by cases hq) dX11_isOfKind_67

def F_X11_isOfKind_10 (f0 : Nat → Int32) (g0 : Nat → Int64) (a0 : Nat → Nat → Int32) (p1 : Int32) : Int32 := if p1 = 0 then 1 else (if p1 = 1 then 0 else (if p1 = 2 then 1 else (if p1 = 3 then 0 else (if p1 = 4 then 0 else (0)))))
set_option maxHeartbeats 4000000 in
set_option maxRecDepth 100000 in
theorem c_X11_isOfKind_10 (l : Launch) (hz : Nat) (D : va_G) (ad : Nat → Nat) (ck : Nat → ClassId) (f0 : Nat → Int32) (g0 : Nat → Int64) (a0 : Nat → Nat → Int32) (p1 : Int32) : Met l yX11_isOfKind wsX11_isOfKind ({ frames := 0, cells := 0, slots := 0, locals := 0 }) (kR hz D vwCl (tX ck) (wX ad ck f0 g0 a0) [.ref (ad 10), .int p1]) (kZb (F_X11_isOfKind_10 f0 g0 a0 p1)) 0 0 (fun _ => False) := by
  generalize hF : F_X11_isOfKind_10 f0 g0 a0 p1 = out
  refine Met.ofW (cc := cX11_isOfKind) (maxL := 2) (ret := (some .boolean)) (by decide) rfl ?_
  intro p e s m args below meth c s₁ B hml hv
  obtain ⟨rfl, hP, hE⟩ := hv
  have hx := B.exec
  have hb := B.bytes
  have hr := B.returns
  have hts := atoms_spec (ws := wsX11_isOfKind) B.pre
  have hown : s.vm.findClass RX11 = some m.cls := findClass_of_methodNamed B.named
  have hlocks := B.notSynchronized
  have hK := hE.1
  have hl := lv_entry ([.ref (ad 10), .int p1]) (n := 2) (Nat.le_of_ble_eq_true rfl)
  rw [lg_entry_eq]
  generalize (lg_sl ([.ref (ad 10), .int p1]) ++ List.replicate (2 - (lg_sl ([.ref (ad 10), .int p1])).length) Slot.unset).toArray = ls at hl ⊢
  have hl : lv_has ls 2 [(0, .ref (ad 10)), (1, .int p1)] := hl
  obtain ⟨r, hF, hp⟩ : ∃ r, F_X11_isOfKind_10 f0 g0 a0 p1 = r ∧ r = out := ⟨out, hF, rfl⟩
  unfold F_X11_isOfKind_10 at hF
  refine lv_iload_n hx hb dX11_isOfKind_0 rfl (lv_at hl 1 rfl) ?_
  by_cases hc1 : p1 = 0
  · have hF := it_p hc1 hF
    refine lv_tableIn (tgt := 36) (off := 35) hx hb dX11_isOfKind_1 (by rw [hc1]; decide) (by rw [hc1]; decide) (by rw [hc1]; rfl) (by decide) ?_
    refine lv_aload_n hx hb dX11_isOfKind_36 rfl (lv_at hl 0 rfl) ?_
    refine lv_ifnull hx hb dX11_isOfKind_37 ?_
    refine lv_iconst (v := 1) hx hb dX11_isOfKind_40 (by decide) ?_
    refine lv_goto (tgt := 45) hx hb dX11_isOfKind_41 (by decide) ?_
    have hv := hF.trans hp
    exact W.zret hx hb hr rfl (fun t ht hW => ⟨_, rfl, ⟨hv, by rw [← hv]; exact rfl⟩, ht⟩) (fun q hq => by cases hq) dX11_isOfKind_45
  have hF := it_n hc1 hF
  by_cases hc2 : p1 = 1
  · have hF := it_p hc2 hF
    refine lv_tableIn (tgt := 46) (off := 45) hx hb dX11_isOfKind_1 (by rw [hc2]; decide) (by rw [hc2]; decide) (by rw [hc2]; rfl) (by decide) ?_
    refine lv_aload_n hx hb dX11_isOfKind_46 rfl (lv_at hl 0 rfl) ?_
    refine va_instNo hx hb hown (hts (.classLink RX11 231 "SpeltByFriends$Hermit") (by decide +kernel)) (hE.2.2.2 _ ncX0_X2) (va_recv hK hP (ci := 0) (q0 := 10) rfl rfl) dX11_isOfKind_47 ?_
    have hv := hF.trans hp
    exact W.zret hx hb hr rfl (fun t ht hW => ⟨_, rfl, ⟨hv, by rw [← hv]; exact rfl⟩, ht⟩) (fun q hq => by cases hq) dX11_isOfKind_50
  have hF := it_n hc2 hF
  by_cases hc3 : p1 = 2
  · have hF := it_p hc3 hF
    refine lv_tableIn (tgt := 51) (off := 50) hx hb dX11_isOfKind_1 (by rw [hc3]; decide) (by rw [hc3]; decide) (by rw [hc3]; rfl) (by decide) ?_
    refine lv_aload_n hx hb dX11_isOfKind_51 rfl (lv_at hl 0 rfl) ?_
    refine va_instE hx hb hown (hts (.classLink RX11 233 "SpeltByFriends$Forger") (by decide +kernel)) (va_recv hK hP (ci := 0) (q0 := 10) rfl rfl) dX11_isOfKind_52 ?_
    have hv := hF.trans hp
    exact W.zret hx hb hr rfl (fun t ht hW => ⟨_, rfl, ⟨hv, by rw [← hv]; exact rfl⟩, ht⟩) (fun q hq => by cases hq) dX11_isOfKind_55
  have hF := it_n hc3 hF
  by_cases hc4 : p1 = 3
  · have hF := it_p hc4 hF
    refine lv_tableIn (tgt := 56) (off := 55) hx hb dX11_isOfKind_1 (by rw [hc4]; decide) (by rw [hc4]; decide) (by rw [hc4]; rfl) (by decide) ?_
    refine lv_aload_n hx hb dX11_isOfKind_56 rfl (lv_at hl 0 rfl) ?_
    refine va_instNo hx hb hown (hts (.classLink RX11 235 "SpeltByFriends$Proud") (by decide +kernel)) (hE.2.2.2 _ ncX0_X8) (va_recv hK hP (ci := 0) (q0 := 10) rfl rfl) dX11_isOfKind_57 ?_
    have hv := hF.trans hp
    exact W.zret hx hb hr rfl (fun t ht hW => ⟨_, rfl, ⟨hv, by rw [← hv]; exact rfl⟩, ht⟩) (fun q hq => by cases hq) dX11_isOfKind_60
  have hF := it_n hc4 hF
  by_cases hc5 : p1 = 4
  · have hF := it_p hc5 hF
    refine lv_tableIn (tgt := 61) (off := 60) hx hb dX11_isOfKind_1 (by rw [hc5]; decide) (by rw [hc5]; decide) (by rw [hc5]; rfl) (by decide) ?_
    refine lv_aload_n hx hb dX11_isOfKind_61 rfl (lv_at hl 0 rfl) ?_
    refine va_instNo hx hb hown (hts (.classLink RX11 237 "SpeltByFriends$Twin") (by decide +kernel)) (hE.2.2.2 _ ncX0_X10) (va_recv hK hP (ci := 0) (q0 := 10) rfl rfl) dX11_isOfKind_62 ?_
    have hv := hF.trans hp
    exact W.zret hx hb hr rfl (fun t ht hW => ⟨_, rfl, ⟨hv, by rw [← hv]; exact rfl⟩, ht⟩) (fun q hq => by cases hq) dX11_isOfKind_65
  have hF := it_n hc5 hF
  refine lv_tableOut (tgt := 66) hx hb dX11_isOfKind_1 (by have z0 := lv_neT (a := 0) hc1 (by decide); have z1 := lv_neT (a := 1) hc2 (by decide); have z2 := lv_neT (a := 2) hc3 (by decide); have z3 := lv_neT (a := 3) hc4 (by decide); have z4 := lv_neT (a := 4) hc5 (by decide); omega) (by decide) ?_
  refine lv_iconst (v := 0) hx hb dX11_isOfKind_66 (by decide) ?_
  have hv := hF.trans hp
  exact W.zret hx hb hr rfl (fun t ht hW => ⟨_, rfl, ⟨hv, by rw [← hv]; exact rfl⟩, ht⟩) (fun q hq => by cases hq) dX11_isOfKind_67

def F_X11_isOfKind_11 (f0 : Nat → Int32) (g0 : Nat → Int64) (a0 : Nat → Nat → Int32) (p1 : Int32) : Int32 := if p1 = 0 then 1 else (if p1 = 1 then 0 else (if p1 = 2 then 0 else (if p1 = 3 then 1 else (if p1 = 4 then 0 else (0)))))
set_option maxHeartbeats 4000000 in
set_option maxRecDepth 100000 in
theorem c_X11_isOfKind_11 (l : Launch) (hz : Nat) (D : va_G) (ad : Nat → Nat) (ck : Nat → ClassId) (f0 : Nat → Int32) (g0 : Nat → Int64) (a0 : Nat → Nat → Int32) (p1 : Int32) : Met l yX11_isOfKind wsX11_isOfKind ({ frames := 0, cells := 0, slots := 0, locals := 0 }) (kR hz D vwCl (tX ck) (wX ad ck f0 g0 a0) [.ref (ad 11), .int p1]) (kZb (F_X11_isOfKind_11 f0 g0 a0 p1)) 0 0 (fun _ => False) := by
  generalize hF : F_X11_isOfKind_11 f0 g0 a0 p1 = out
  refine Met.ofW (cc := cX11_isOfKind) (maxL := 2) (ret := (some .boolean)) (by decide) rfl ?_
  intro p e s m args below meth c s₁ B hml hv
  obtain ⟨rfl, hP, hE⟩ := hv
  have hx := B.exec
  have hb := B.bytes
  have hr := B.returns
  have hts := atoms_spec (ws := wsX11_isOfKind) B.pre
  have hown : s.vm.findClass RX11 = some m.cls := findClass_of_methodNamed B.named
  have hlocks := B.notSynchronized
  have hK := hE.1
  have hl := lv_entry ([.ref (ad 11), .int p1]) (n := 2) (Nat.le_of_ble_eq_true rfl)
  rw [lg_entry_eq]
  generalize (lg_sl ([.ref (ad 11), .int p1]) ++ List.replicate (2 - (lg_sl ([.ref (ad 11), .int p1])).length) Slot.unset).toArray = ls at hl ⊢
  have hl : lv_has ls 2 [(0, .ref (ad 11)), (1, .int p1)] := hl
  obtain ⟨r, hF, hp⟩ : ∃ r, F_X11_isOfKind_11 f0 g0 a0 p1 = r ∧ r = out := ⟨out, hF, rfl⟩
  unfold F_X11_isOfKind_11 at hF
  refine lv_iload_n hx hb dX11_isOfKind_0 rfl (lv_at hl 1 rfl) ?_
  by_cases hc1 : p1 = 0
  · have hF := it_p hc1 hF
    refine lv_tableIn (tgt := 36) (off := 35) hx hb dX11_isOfKind_1 (by rw [hc1]; decide) (by rw [hc1]; decide) (by rw [hc1]; rfl) (by decide) ?_
    refine lv_aload_n hx hb dX11_isOfKind_36 rfl (lv_at hl 0 rfl) ?_
    refine lv_ifnull hx hb dX11_isOfKind_37 ?_
    refine lv_iconst (v := 1) hx hb dX11_isOfKind_40 (by decide) ?_
    refine lv_goto (tgt := 45) hx hb dX11_isOfKind_41 (by decide) ?_
    have hv := hF.trans hp
    exact W.zret hx hb hr rfl (fun t ht hW => ⟨_, rfl, ⟨hv, by rw [← hv]; exact rfl⟩, ht⟩) (fun q hq => by cases hq) dX11_isOfKind_45
  have hF := it_n hc1 hF
  by_cases hc2 : p1 = 1
  · have hF := it_p hc2 hF
    refine lv_tableIn (tgt := 46) (off := 45) hx hb dX11_isOfKind_1 (by rw [hc2]; decide) (by rw [hc2]; decide) (by rw [hc2]; rfl) (by decide) ?_
    refine lv_aload_n hx hb dX11_isOfKind_46 rfl (lv_at hl 0 rfl) ?_
    refine va_instNo hx hb hown (hts (.classLink RX11 231 "SpeltByFriends$Hermit") (by decide +kernel)) (hE.2.2.2 _ ncX8_X2) (va_recv hK hP (ci := 8) (q0 := 11) rfl rfl) dX11_isOfKind_47 ?_
    have hv := hF.trans hp
    exact W.zret hx hb hr rfl (fun t ht hW => ⟨_, rfl, ⟨hv, by rw [← hv]; exact rfl⟩, ht⟩) (fun q hq => by cases hq) dX11_isOfKind_50
  have hF := it_n hc2 hF
  by_cases hc3 : p1 = 2
  · have hF := it_p hc3 hF
    refine lv_tableIn (tgt := 51) (off := 50) hx hb dX11_isOfKind_1 (by rw [hc3]; decide) (by rw [hc3]; decide) (by rw [hc3]; rfl) (by decide) ?_
    refine lv_aload_n hx hb dX11_isOfKind_51 rfl (lv_at hl 0 rfl) ?_
    refine va_instNo hx hb hown (hts (.classLink RX11 233 "SpeltByFriends$Forger") (by decide +kernel)) (hE.2.2.2 _ ncX8_X0) (va_recv hK hP (ci := 8) (q0 := 11) rfl rfl) dX11_isOfKind_52 ?_
    have hv := hF.trans hp
    exact W.zret hx hb hr rfl (fun t ht hW => ⟨_, rfl, ⟨hv, by rw [← hv]; exact rfl⟩, ht⟩) (fun q hq => by cases hq) dX11_isOfKind_55
  have hF := it_n hc3 hF
  by_cases hc4 : p1 = 3
  · have hF := it_p hc4 hF
    refine lv_tableIn (tgt := 56) (off := 55) hx hb dX11_isOfKind_1 (by rw [hc4]; decide) (by rw [hc4]; decide) (by rw [hc4]; rfl) (by decide) ?_
    refine lv_aload_n hx hb dX11_isOfKind_56 rfl (lv_at hl 0 rfl) ?_
    refine va_instE hx hb hown (hts (.classLink RX11 235 "SpeltByFriends$Proud") (by decide +kernel)) (va_recv hK hP (ci := 8) (q0 := 11) rfl rfl) dX11_isOfKind_57 ?_
    have hv := hF.trans hp
    exact W.zret hx hb hr rfl (fun t ht hW => ⟨_, rfl, ⟨hv, by rw [← hv]; exact rfl⟩, ht⟩) (fun q hq => by cases hq) dX11_isOfKind_60
  have hF := it_n hc4 hF
  by_cases hc5 : p1 = 4
  · have hF := it_p hc5 hF
    refine lv_tableIn (tgt := 61) (off := 60) hx hb dX11_isOfKind_1 (by rw [hc5]; decide) (by rw [hc5]; decide) (by rw [hc5]; rfl) (by decide) ?_
    refine lv_aload_n hx hb dX11_isOfKind_61 rfl (lv_at hl 0 rfl) ?_
    refine va_instNo hx hb hown (hts (.classLink RX11 237 "SpeltByFriends$Twin") (by decide +kernel)) (hE.2.2.2 _ ncX8_X10) (va_recv hK hP (ci := 8) (q0 := 11) rfl rfl) dX11_isOfKind_62 ?_
    have hv := hF.trans hp
    exact W.zret hx hb hr rfl (fun t ht hW => ⟨_, rfl, ⟨hv, by rw [← hv]; exact rfl⟩, ht⟩) (fun q hq => by cases hq) dX11_isOfKind_65
  have hF := it_n hc5 hF
  refine lv_tableOut (tgt := 66) hx hb dX11_isOfKind_1 (by have z0 := lv_neT (a := 0) hc1 (by decide); have z1 := lv_neT (a := 1) hc2 (by decide); have z2 := lv_neT (a := 2) hc3 (by decide); have z3 := lv_neT (a := 3) hc4 (by decide); have z4 := lv_neT (a := 4) hc5 (by decide); omega) (by decide) ?_
  refine lv_iconst (v := 0) hx hb dX11_isOfKind_66 (by decide) ?_
  have hv := hF.trans hp
  exact W.zret hx hb hr rfl (fun t ht hW => ⟨_, rfl, ⟨hv, by rw [← hv]; exact rfl⟩, ht⟩) (fun q hq => by cases hq) dX11_isOfKind_67

def F_X11_isOfKind_12 (f0 : Nat → Int32) (g0 : Nat → Int64) (a0 : Nat → Nat → Int32) (p1 : Int32) : Int32 := if p1 = 0 then 1 else (if p1 = 1 then 0 else (if p1 = 2 then 1 else (if p1 = 3 then 0 else (if p1 = 4 then 1 else (0)))))
set_option maxHeartbeats 4000000 in
set_option maxRecDepth 100000 in
theorem c_X11_isOfKind_12 (l : Launch) (hz : Nat) (D : va_G) (ad : Nat → Nat) (ck : Nat → ClassId) (f0 : Nat → Int32) (g0 : Nat → Int64) (a0 : Nat → Nat → Int32) (p1 : Int32) : Met l yX11_isOfKind wsX11_isOfKind ({ frames := 0, cells := 0, slots := 0, locals := 0 }) (kR hz D vwCl (tX ck) (wX ad ck f0 g0 a0) [.ref (ad 12), .int p1]) (kZb (F_X11_isOfKind_12 f0 g0 a0 p1)) 0 0 (fun _ => False) := by
  generalize hF : F_X11_isOfKind_12 f0 g0 a0 p1 = out
  refine Met.ofW (cc := cX11_isOfKind) (maxL := 2) (ret := (some .boolean)) (by decide) rfl ?_
  intro p e s m args below meth c s₁ B hml hv
  obtain ⟨rfl, hP, hE⟩ := hv
  have hx := B.exec
  have hb := B.bytes
  have hr := B.returns
  have hts := atoms_spec (ws := wsX11_isOfKind) B.pre
  have hown : s.vm.findClass RX11 = some m.cls := findClass_of_methodNamed B.named
  have hlocks := B.notSynchronized
  have hK := hE.1
  have hl := lv_entry ([.ref (ad 12), .int p1]) (n := 2) (Nat.le_of_ble_eq_true rfl)
  rw [lg_entry_eq]
  generalize (lg_sl ([.ref (ad 12), .int p1]) ++ List.replicate (2 - (lg_sl ([.ref (ad 12), .int p1])).length) Slot.unset).toArray = ls at hl ⊢
  have hl : lv_has ls 2 [(0, .ref (ad 12)), (1, .int p1)] := hl
  obtain ⟨r, hF, hp⟩ : ∃ r, F_X11_isOfKind_12 f0 g0 a0 p1 = r ∧ r = out := ⟨out, hF, rfl⟩
  unfold F_X11_isOfKind_12 at hF
  refine lv_iload_n hx hb dX11_isOfKind_0 rfl (lv_at hl 1 rfl) ?_
  by_cases hc1 : p1 = 0
  · have hF := it_p hc1 hF
    refine lv_tableIn (tgt := 36) (off := 35) hx hb dX11_isOfKind_1 (by rw [hc1]; decide) (by rw [hc1]; decide) (by rw [hc1]; rfl) (by decide) ?_
    refine lv_aload_n hx hb dX11_isOfKind_36 rfl (lv_at hl 0 rfl) ?_
    refine lv_ifnull hx hb dX11_isOfKind_37 ?_
    refine lv_iconst (v := 1) hx hb dX11_isOfKind_40 (by decide) ?_
    refine lv_goto (tgt := 45) hx hb dX11_isOfKind_41 (by decide) ?_
    have hv := hF.trans hp
    exact W.zret hx hb hr rfl (fun t ht hW => ⟨_, rfl, ⟨hv, by rw [← hv]; exact rfl⟩, ht⟩) (fun q hq => by cases hq) dX11_isOfKind_45
  have hF := it_n hc1 hF
  by_cases hc2 : p1 = 1
  · have hF := it_p hc2 hF
    refine lv_tableIn (tgt := 46) (off := 45) hx hb dX11_isOfKind_1 (by rw [hc2]; decide) (by rw [hc2]; decide) (by rw [hc2]; rfl) (by decide) ?_
    refine lv_aload_n hx hb dX11_isOfKind_46 rfl (lv_at hl 0 rfl) ?_
    refine va_instNo hx hb hown (hts (.classLink RX11 231 "SpeltByFriends$Hermit") (by decide +kernel)) (hE.2.2.2 _ ncX10_X2) (va_recv hK hP (ci := 10) (q0 := 12) rfl rfl) dX11_isOfKind_47 ?_
    have hv := hF.trans hp
    exact W.zret hx hb hr rfl (fun t ht hW => ⟨_, rfl, ⟨hv, by rw [← hv]; exact rfl⟩, ht⟩) (fun q hq => by cases hq) dX11_isOfKind_50
  have hF := it_n hc2 hF
  by_cases hc3 : p1 = 2
  · have hF := it_p hc3 hF
    refine lv_tableIn (tgt := 51) (off := 50) hx hb dX11_isOfKind_1 (by rw [hc3]; decide) (by rw [hc3]; decide) (by rw [hc3]; rfl) (by decide) ?_
    refine lv_aload_n hx hb dX11_isOfKind_51 rfl (lv_at hl 0 rfl) ?_
    refine va_instY hx hb hown (hts (.classLink RX11 233 "SpeltByFriends$Forger") (by decide +kernel)) (hE.2.1 _ kcX10_X0) (va_recv hK hP (ci := 10) (q0 := 12) rfl rfl) dX11_isOfKind_52 ?_
    have hv := hF.trans hp
    exact W.zret hx hb hr rfl (fun t ht hW => ⟨_, rfl, ⟨hv, by rw [← hv]; exact rfl⟩, ht⟩) (fun q hq => by cases hq) dX11_isOfKind_55
  have hF := it_n hc3 hF
  by_cases hc4 : p1 = 3
  · have hF := it_p hc4 hF
    refine lv_tableIn (tgt := 56) (off := 55) hx hb dX11_isOfKind_1 (by rw [hc4]; decide) (by rw [hc4]; decide) (by rw [hc4]; rfl) (by decide) ?_
    refine lv_aload_n hx hb dX11_isOfKind_56 rfl (lv_at hl 0 rfl) ?_
    refine va_instNo hx hb hown (hts (.classLink RX11 235 "SpeltByFriends$Proud") (by decide +kernel)) (hE.2.2.2 _ ncX10_X8) (va_recv hK hP (ci := 10) (q0 := 12) rfl rfl) dX11_isOfKind_57 ?_
    have hv := hF.trans hp
    exact W.zret hx hb hr rfl (fun t ht hW => ⟨_, rfl, ⟨hv, by rw [← hv]; exact rfl⟩, ht⟩) (fun q hq => by cases hq) dX11_isOfKind_60
  have hF := it_n hc4 hF
  by_cases hc5 : p1 = 4
  · have hF := it_p hc5 hF
    refine lv_tableIn (tgt := 61) (off := 60) hx hb dX11_isOfKind_1 (by rw [hc5]; decide) (by rw [hc5]; decide) (by rw [hc5]; rfl) (by decide) ?_
    refine lv_aload_n hx hb dX11_isOfKind_61 rfl (lv_at hl 0 rfl) ?_
    refine va_instE hx hb hown (hts (.classLink RX11 237 "SpeltByFriends$Twin") (by decide +kernel)) (va_recv hK hP (ci := 10) (q0 := 12) rfl rfl) dX11_isOfKind_62 ?_
    have hv := hF.trans hp
    exact W.zret hx hb hr rfl (fun t ht hW => ⟨_, rfl, ⟨hv, by rw [← hv]; exact rfl⟩, ht⟩) (fun q hq => by cases hq) dX11_isOfKind_65
  have hF := it_n hc5 hF
  refine lv_tableOut (tgt := 66) hx hb dX11_isOfKind_1 (by have z0 := lv_neT (a := 0) hc1 (by decide); have z1 := lv_neT (a := 1) hc2 (by decide); have z2 := lv_neT (a := 2) hc3 (by decide); have z3 := lv_neT (a := 3) hc4 (by decide); have z4 := lv_neT (a := 4) hc5 (by decide); omega) (by decide) ?_
  refine lv_iconst (v := 0) hx hb dX11_isOfKind_66 (by decide) ?_
  have hv := hF.trans hp
  exact W.zret hx hb hr rfl (fun t ht hW => ⟨_, rfl, ⟨hv, by rw [← hv]; exact rfl⟩, ht⟩) (fun q hq => by cases hq) dX11_isOfKind_67

def F_X11_as (f0 : Nat → Int32) (g0 : Nat → Int64) (a0 : Nat → Nat → Int32) (p1 : Int32) (p2 : Int32) : Int32 := if (F_X9_has f0 g0 a0 p1) = 0 then (-101) else if p2 < 0 then (-102) else if p2 < 5 then if (F_X9_personAt f0 g0 a0 p1) = 0 then if (F_X11_isOfKind_8 f0 g0 a0 p2) = 0 then (-1) else p1 else (if (F_X9_personAt f0 g0 a0 p1) = 1 then if (F_X11_isOfKind_9 f0 g0 a0 p2) = 0 then (-1) else p1 else (if (F_X9_personAt f0 g0 a0 p1) = 2 then if (F_X11_isOfKind_10 f0 g0 a0 p2) = 0 then (-1) else p1 else (if (F_X9_personAt f0 g0 a0 p1) = 3 then if (F_X11_isOfKind_11 f0 g0 a0 p2) = 0 then (-1) else p1 else (if (F_X9_personAt f0 g0 a0 p1) = 4 then if (F_X11_isOfKind_12 f0 g0 a0 p2) = 0 then (-1) else p1 else (if (F_X11_isOfKind_null f0 g0 a0 p2) = 0 then (-1) else p1))))) else (-102)
set_option maxHeartbeats 4000000 in
set_option maxRecDepth 100000 in
theorem c_X11_as (l : Launch) (hz : Nat) (D : va_G) (ad : Nat → Nat) (ck : Nat → ClassId) (f0 : Nat → Int32) (g0 : Nat → Int64) (a0 : Nat → Nat → Int32) (p1 : Int32) (p2 : Int32) : Met l yX11_as wsX11_as ({ frames := 2, cells := 0, slots := 0, locals := 42 }) (kR hz D vwCl (tX ck) (wX ad ck f0 g0 a0) [.ref (ad 0), .int p1, .int p2]) (kZi (F_X11_as f0 g0 a0 p1 p2)) 0 0 (fun _ => False) := by
  generalize hF : F_X11_as f0 g0 a0 p1 p2 = out
  refine Met.ofW (cc := cX11_as) (maxL := 3) (ret := (some .int)) (by decide) rfl ?_
  intro p e s m args below meth c s₁ B hml hv
  obtain ⟨rfl, hP, hE⟩ := hv
  have hx := B.exec
  have hb := B.bytes
  have hr := B.returns
  have hts := atoms_spec (ws := wsX11_as) B.pre
  have hown : s.vm.findClass RX11 = some m.cls := findClass_of_methodNamed B.named
  have hlocks := B.notSynchronized
  have hK := hE.1
  have hiX11 : ∀ w ∈ u_ws RX11 TX11 10, w ∈ wsX11_as := by decide +kernel
  have hf19 := hts (.fieldLink RX11 19 "SpeltByFriends" "here" "LSpeltByFriends$Town;") (by decide +kernel)
  have hl := lv_entry ([.ref (ad 0), .int p1, .int p2]) (n := 3) (Nat.le_of_ble_eq_true rfl)
  rw [lg_entry_eq]
  generalize (lg_sl ([.ref (ad 0), .int p1, .int p2]) ++ List.replicate (3 - (lg_sl ([.ref (ad 0), .int p1, .int p2])).length) Slot.unset).toArray = ls at hl ⊢
  have hl : lv_has ls 3 [(0, .ref (ad 0)), (1, .int p1), (2, .int p2)] := hl
  obtain ⟨r, hF, hp⟩ : ∃ r, F_X11_as f0 g0 a0 p1 p2 = r ∧ r = out := ⟨out, hF, rfl⟩
  unfold F_X11_as at hF
  refine lv_aload_n hx hb dX11_as_0 rfl (lv_at hl 0 rfl) ?_
  refine va_get (D := D) (ci := 11) (v := .ref (ad 2)) (C := RX11) (T := TX11) (N := 10) hx hb hts hiX11 hown hK hP 0 rfl rfl 1 (by decide) hf19 (fun _ h9 => h9) rfl dX11_as_1 ?_
  refine lv_iload_n hx hb dX11_as_4 rfl (lv_at hl 1 rfl) ?_
  refine kS_b (va_runV (As := [.int p1]) (rest := []) ⟨hx, hb, hml, hown, hts⟩ (c_X9_has l hz D ad ck f0 g0 a0 p1) (cwV 1 hts gX11_as_X9_has rfl rfl rfl ⟨rfl, pX9_has⟩ ⟨Nat.le_of_ble_eq_true rfl, Nat.le_of_ble_eq_true rfl⟩) (kR.preV (va_recv hK hP (ci := 9) (q0 := 2) rfl rfl) hP hE) rfl rfl hl.1 rfl (lv_room (Nat.le_of_ble_eq_true rfl)) dX11_as_5 ⟨Nat.le_refl _, Nat.le_refl _⟩) (fun hz1 => ?_)
  refine lv_if_ne (tgt := 14) hx hb dX11_as_8 (by decide) (fun hc2 => ?_) (fun hc2 => ?_)
  · have hF := it_n hc2 hF
    refine lv_iload_n hx hb dX11_as_14 rfl (lv_at hl 2 rfl) ?_
    refine lv_if_lt (tgt := 23) hx hb dX11_as_15 (by decide) (fun hc3 => ?_) (fun hc3 => ?_)
    · have hF := it_p hc3 hF
      refine lv_bipush (v := (-102)) hx hb dX11_as_23 (by decide) ?_
      exact W.iret hx hb hr (fun t ht hW => ⟨_, rfl, hF.trans hp, ht⟩) (fun q hq => by cases hq) dX11_as_25
    · have hF := it_n hc3 hF
      refine lv_iload_n hx hb dX11_as_18 rfl (lv_at hl 2 rfl) ?_
      refine lv_iconst (v := 5) hx hb dX11_as_19 (by decide) ?_
      refine lv_icmp_lt (tgt := 26) hx hb dX11_as_20 (by decide) (fun hc4 => ?_) (fun hc4 => ?_)
      · have hF := it_p hc4 hF
        refine lv_aload_n hx hb dX11_as_26 rfl (lv_at hl 0 rfl) ?_
        refine va_get (D := D) (ci := 11) (v := .ref (ad 2)) (C := RX11) (T := TX11) (N := 10) hx hb hts hiX11 hown hK hP 0 rfl rfl 1 (by decide) hf19 (fun _ h9 => h9) rfl dX11_as_27 ?_
        refine lv_iload_n hx hb dX11_as_30 rfl (lv_at hl 1 rfl) ?_
        refine kS_r (va_runV (As := [.int p1]) (rest := []) ⟨hx, hb, hml, hown, hts⟩ (c_X9_personAt l hz D ad ck f0 g0 a0 p1) (cwV 1 hts gX11_as_X9_personAt rfl rfl rfl ⟨rfl, pX9_personAt⟩ ⟨Nat.le_of_ble_eq_true rfl, Nat.le_of_ble_eq_true rfl⟩) (kR.preV (va_recv hK hP (ci := 9) (q0 := 2) rfl rfl) hP hE) rfl rfl hl.1 rfl (lv_room (Nat.le_of_ble_eq_true rfl)) dX11_as_31 ⟨Nat.le_refl _, Nat.le_refl _⟩) ?_
        by_cases hc5 : (F_X9_personAt f0 g0 a0 p1) = 0
        · have hF := it_p hc5 hF
          rw [kref_0 ad hc5]
          refine lv_iload_n hx hb dX11_as_34 rfl (lv_at hl 2 rfl) ?_
          refine kS_b (va_runS (As := [.ref (ad 8), .int p2]) (rest := []) ⟨hx, hb, hml, hown, hts⟩ (c_X11_isOfKind_8 l hz D ad ck f0 g0 a0 p2) (va_cwS 2 hts gX11_as_X11_isOfKind rfl rfl rfl pX11_isOfKind ⟨Nat.le_of_ble_eq_true rfl, Nat.le_of_ble_eq_true rfl⟩) (kR.preS hP hE) rfl rfl hl.1 rfl (lv_room (Nat.le_of_ble_eq_true rfl)) dX11_as_35 ⟨Nat.le_refl _, Nat.le_refl _⟩) (fun hz6 => ?_)
          refine lv_if_eq (tgt := 45) hx hb dX11_as_38 (by decide) (fun hc7 => ?_) (fun hc7 => ?_)
          · have hF := it_p hc7 hF
            refine lv_iconst (v := (-1)) hx hb dX11_as_45 (by decide) ?_
            exact W.iret hx hb hr (fun t ht hW => ⟨_, rfl, hF.trans hp, ht⟩) (fun q hq => by cases hq) dX11_as_46
          · have hF := it_n hc7 hF
            refine lv_iload_n hx hb dX11_as_41 rfl (lv_at hl 1 rfl) ?_
            refine lv_goto (tgt := 46) hx hb dX11_as_42 (by decide) ?_
            exact W.iret hx hb hr (fun t ht hW => ⟨_, rfl, hF.trans hp, ht⟩) (fun q hq => by cases hq) dX11_as_46
        have hF := it_n hc5 hF
        by_cases hc8 : (F_X9_personAt f0 g0 a0 p1) = 1
        · have hF := it_p hc8 hF
          rw [kref_1 ad hc8]
          refine lv_iload_n hx hb dX11_as_34 rfl (lv_at hl 2 rfl) ?_
          refine kS_b (va_runS (As := [.ref (ad 9), .int p2]) (rest := []) ⟨hx, hb, hml, hown, hts⟩ (c_X11_isOfKind_9 l hz D ad ck f0 g0 a0 p2) (va_cwS 2 hts gX11_as_X11_isOfKind rfl rfl rfl pX11_isOfKind ⟨Nat.le_of_ble_eq_true rfl, Nat.le_of_ble_eq_true rfl⟩) (kR.preS hP hE) rfl rfl hl.1 rfl (lv_room (Nat.le_of_ble_eq_true rfl)) dX11_as_35 ⟨Nat.le_refl _, Nat.le_refl _⟩) (fun hz9 => ?_)
          refine lv_if_eq (tgt := 45) hx hb dX11_as_38 (by decide) (fun hc10 => ?_) (fun hc10 => ?_)
          · have hF := it_p hc10 hF
            refine lv_iconst (v := (-1)) hx hb dX11_as_45 (by decide) ?_
            exact W.iret hx hb hr (fun t ht hW => ⟨_, rfl, hF.trans hp, ht⟩) (fun q hq => by cases hq) dX11_as_46
          · have hF := it_n hc10 hF
            refine lv_iload_n hx hb dX11_as_41 rfl (lv_at hl 1 rfl) ?_
            refine lv_goto (tgt := 46) hx hb dX11_as_42 (by decide) ?_
            exact W.iret hx hb hr (fun t ht hW => ⟨_, rfl, hF.trans hp, ht⟩) (fun q hq => by cases hq) dX11_as_46
        have hF := it_n hc8 hF
        by_cases hc11 : (F_X9_personAt f0 g0 a0 p1) = 2
        · have hF := it_p hc11 hF
          rw [kref_2 ad hc11]
          refine lv_iload_n hx hb dX11_as_34 rfl (lv_at hl 2 rfl) ?_
          refine kS_b (va_runS (As := [.ref (ad 10), .int p2]) (rest := []) ⟨hx, hb, hml, hown, hts⟩ (c_X11_isOfKind_10 l hz D ad ck f0 g0 a0 p2) (va_cwS 2 hts gX11_as_X11_isOfKind rfl rfl rfl pX11_isOfKind ⟨Nat.le_of_ble_eq_true rfl, Nat.le_of_ble_eq_true rfl⟩) (kR.preS hP hE) rfl rfl hl.1 rfl (lv_room (Nat.le_of_ble_eq_true rfl)) dX11_as_35 ⟨Nat.le_refl _, Nat.le_refl _⟩) (fun hz12 => ?_)
          refine lv_if_eq (tgt := 45) hx hb dX11_as_38 (by decide) (fun hc13 => ?_) (fun hc13 => ?_)
          · have hF := it_p hc13 hF
            refine lv_iconst (v := (-1)) hx hb dX11_as_45 (by decide) ?_
            exact W.iret hx hb hr (fun t ht hW => ⟨_, rfl, hF.trans hp, ht⟩) (fun q hq => by cases hq) dX11_as_46
          · have hF := it_n hc13 hF
            refine lv_iload_n hx hb dX11_as_41 rfl (lv_at hl 1 rfl) ?_
            refine lv_goto (tgt := 46) hx hb dX11_as_42 (by decide) ?_
            exact W.iret hx hb hr (fun t ht hW => ⟨_, rfl, hF.trans hp, ht⟩) (fun q hq => by cases hq) dX11_as_46
        have hF := it_n hc11 hF
        by_cases hc14 : (F_X9_personAt f0 g0 a0 p1) = 3
        · have hF := it_p hc14 hF
          rw [kref_3 ad hc14]
          refine lv_iload_n hx hb dX11_as_34 rfl (lv_at hl 2 rfl) ?_
          refine kS_b (va_runS (As := [.ref (ad 11), .int p2]) (rest := []) ⟨hx, hb, hml, hown, hts⟩ (c_X11_isOfKind_11 l hz D ad ck f0 g0 a0 p2) (va_cwS 2 hts gX11_as_X11_isOfKind rfl rfl rfl pX11_isOfKind ⟨Nat.le_of_ble_eq_true rfl, Nat.le_of_ble_eq_true rfl⟩) (kR.preS hP hE) rfl rfl hl.1 rfl (lv_room (Nat.le_of_ble_eq_true rfl)) dX11_as_35 ⟨Nat.le_refl _, Nat.le_refl _⟩) (fun hz15 => ?_)
          refine lv_if_eq (tgt := 45) hx hb dX11_as_38 (by decide) (fun hc16 => ?_) (fun hc16 => ?_)
          · have hF := it_p hc16 hF
            refine lv_iconst (v := (-1)) hx hb dX11_as_45 (by decide) ?_
            exact W.iret hx hb hr (fun t ht hW => ⟨_, rfl, hF.trans hp, ht⟩) (fun q hq => by cases hq) dX11_as_46
          · have hF := it_n hc16 hF
            refine lv_iload_n hx hb dX11_as_41 rfl (lv_at hl 1 rfl) ?_
            refine lv_goto (tgt := 46) hx hb dX11_as_42 (by decide) ?_
            exact W.iret hx hb hr (fun t ht hW => ⟨_, rfl, hF.trans hp, ht⟩) (fun q hq => by cases hq) dX11_as_46
        have hF := it_n hc14 hF
        by_cases hc17 : (F_X9_personAt f0 g0 a0 p1) = 4
        · have hF := it_p hc17 hF
          rw [kref_4 ad hc17]
          refine lv_iload_n hx hb dX11_as_34 rfl (lv_at hl 2 rfl) ?_
          refine kS_b (va_runS (As := [.ref (ad 12), .int p2]) (rest := []) ⟨hx, hb, hml, hown, hts⟩ (c_X11_isOfKind_12 l hz D ad ck f0 g0 a0 p2) (va_cwS 2 hts gX11_as_X11_isOfKind rfl rfl rfl pX11_isOfKind ⟨Nat.le_of_ble_eq_true rfl, Nat.le_of_ble_eq_true rfl⟩) (kR.preS hP hE) rfl rfl hl.1 rfl (lv_room (Nat.le_of_ble_eq_true rfl)) dX11_as_35 ⟨Nat.le_refl _, Nat.le_refl _⟩) (fun hz18 => ?_)
          refine lv_if_eq (tgt := 45) hx hb dX11_as_38 (by decide) (fun hc19 => ?_) (fun hc19 => ?_)
          · have hF := it_p hc19 hF
            refine lv_iconst (v := (-1)) hx hb dX11_as_45 (by decide) ?_
            exact W.iret hx hb hr (fun t ht hW => ⟨_, rfl, hF.trans hp, ht⟩) (fun q hq => by cases hq) dX11_as_46
          · have hF := it_n hc19 hF
            refine lv_iload_n hx hb dX11_as_41 rfl (lv_at hl 1 rfl) ?_
            refine lv_goto (tgt := 46) hx hb dX11_as_42 (by decide) ?_
            exact W.iret hx hb hr (fun t ht hW => ⟨_, rfl, hF.trans hp, ht⟩) (fun q hq => by cases hq) dX11_as_46
        have hF := it_n hc17 hF
        rw [kref_n ad hc5 hc8 hc11 hc14 hc17]
        refine lv_iload_n hx hb dX11_as_34 rfl (lv_at hl 2 rfl) ?_
        refine kS_b (va_runS (As := [.null, .int p2]) (rest := []) ⟨hx, hb, hml, hown, hts⟩ (c_X11_isOfKind_null l hz D ad ck f0 g0 a0 p2) (va_cwS 2 hts gX11_as_X11_isOfKind rfl rfl rfl pX11_isOfKind ⟨Nat.le_of_ble_eq_true rfl, Nat.le_of_ble_eq_true rfl⟩) (kR.preS hP hE) rfl rfl hl.1 rfl (lv_room (Nat.le_of_ble_eq_true rfl)) dX11_as_35 ⟨Nat.le_refl _, Nat.le_refl _⟩) (fun hz20 => ?_)
        refine lv_if_eq (tgt := 45) hx hb dX11_as_38 (by decide) (fun hc21 => ?_) (fun hc21 => ?_)
        · have hF := it_p hc21 hF
          refine lv_iconst (v := (-1)) hx hb dX11_as_45 (by decide) ?_
          exact W.iret hx hb hr (fun t ht hW => ⟨_, rfl, hF.trans hp, ht⟩) (fun q hq => by cases hq) dX11_as_46
        · have hF := it_n hc21 hF
          refine lv_iload_n hx hb dX11_as_41 rfl (lv_at hl 1 rfl) ?_
          refine lv_goto (tgt := 46) hx hb dX11_as_42 (by decide) ?_
          exact W.iret hx hb hr (fun t ht hW => ⟨_, rfl, hF.trans hp, ht⟩) (fun q hq => by cases hq) dX11_as_46
      · have hF := it_n hc4 hF
        refine lv_bipush (v := (-102)) hx hb dX11_as_23 (by decide) ?_
        exact W.iret hx hb hr (fun t ht hW => ⟨_, rfl, hF.trans hp, ht⟩) (fun q hq => by cases hq) dX11_as_25
  · have hF := it_p hc2 hF
    refine lv_bipush (v := (-101)) hx hb dX11_as_11 (by decide) ?_
    exact W.iret hx hb hr (fun t ht hW => ⟨_, rfl, hF.trans hp, ht⟩) (fun q hq => by cases hq) dX11_as_13
