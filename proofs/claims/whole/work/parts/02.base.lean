/-! ===== 02.base: our own forms of contract (read-only, writing), the calls over them, guards, loops ===== -/
/-- links of nest mates: no words of a method, so each contract's start takes them -/
def kNW : List Cond := [.methodLinkNest RX11 18 yX9_init RX11, .methodLinkNest RX11 25 yX3_init RX11, .methodLinkNest RX11 32 yX7_init RX11, .methodLinkNest RX11 39 yX1_init RX11, .methodLinkNest RX11 46 yX4_init RX11, .methodLinkNest RX11 9 yX5_init RX11, .methodLinkNest RX1 34 yX11_put RX11, .methodLinkNest RX1 50 yX11_at RX11, .methodLinkNest RX3 30 yX11_put RX11, .methodLinkNest RX3 47 yX11_at RX11, .methodLinkNest RX4 36 yX11_withRoom RX11, .methodLinkNest RX5 19 yX11_put RX11, .methodLinkNest RX5 33 yX11_at RX11, .methodLinkNest RX7 60 yX11_put RX11, .methodLinkNest RX7 68 yX11_at RX11, .methodLinkNest RX9 11 yX3_init RX11, .methodLinkNest RX9 71 yX11_put RX11, .methodLinkNest RX9 92 yX11_roomIn RX11, .methodLinkNest RX9 95 yX11_at RX11, .castable RX0 RX6, .castable RX2 RX6, .castable RX8 RX6, .castable RX10 RX6, .castable RX10 RX0]
def kNC : List (String × String) := [(RX0, RX2), (RX0, RX8), (RX0, RX10), (RX2, RX0), (RX2, RX8), (RX2, RX10), (RX6, RX0), (RX6, RX2), (RX6, RX8), (RX6, RX10), (RX8, RX0), (RX8, RX2), (RX8, RX10), (RX10, RX2), (RX10, RX8)]
def kIsN (w : Cond) : Bool := match w with
  | .methodLinkNest _ _ _ _ => true
  | .castable _ _ => true
  | _ => false
theorem kNW_is : ∀ w ∈ kNW, kIsN w = true := by decide +kernel
theorem kNW_t : ∀ w ∈ kNW, w.onTables = true := by decide +kernel
theorem kIsN_w {w : Cond} (h : kIsN w = true) : (∃ a i x b, w = .methodLinkNest a i x b) ∨ ∃ a b, w = .castable a b := by
  unfold kIsN at h
  split at h
  · exact Or.inl ⟨_, _, _, _, rfl⟩
  · exact Or.inr ⟨_, _, rfl⟩
  · cases h
theorem kNW_warm {s U : State} (hW : s.WarmedH U.vm) (w : Cond) (hw : w ∈ kNW) (h : va_Nw w s) : va_Nw w U := by
  rcases kIsN_w (kNW_is w hw) with ⟨a, i, x, b, rfl⟩ | ⟨a, b, rfl⟩
  · exact va_Nw.warmM hW h
  · exact va_Nw.warmC hW h
/-- what lies outside the worlds, which lie from hz on: the class's one text, a static of String's -/
def kStr (hz : Nat) (U : State) (H : Heap) : Prop := ∃ adK adV : Nat → Nat, vk_R RX5 31 "phfrt" (adK 0) U ∧ vk_S 1 [5] [[112, 104, 102, 114, 116]] adK adV (fun q => hz ≤ q) U H ∧ va_Z "java/lang/String" "COMPACT_STRINGS" "Z" (.int 1) (fun q => hz ≤ q) U H
theorem kStr.warm {hz : Nat} {s U : State} {H : Heap} (hW : s.WarmedH U.vm) (h : kStr hz s H) : kStr hz U H := by
  obtain ⟨k, v, h1, h2, h3⟩ := h
  exact ⟨k, v, vk_R.warm hW h1, vk_S.moved hW.alike h2, va_Z.moved hW.alike h3⟩
theorem kStr.call {hz : Nat} {U : State} {H : Heap} {g : JFrame} {mk : MethodId} {a : Array Value} (h : kStr hz U H) : kStr hz (U.calling g mk a) H := by
  obtain ⟨k, v, h1, h2, h3⟩ := h
  exact ⟨k, v, vk_R.same (u := U) (U := U.calling g mk a) rfl h1, vk_S.moved (u := U) (U := U.calling g mk a) (Vm.Alike.refl U.vm) h2, va_Z.moved (u := U) (U := U.calling g mk a) (Vm.Alike.refl U.vm) h3⟩
theorem kStr.kept {hz : Nat} {U : State} {H H1 : Heap} (hq : ∀ a : Nat, a < H.size → ¬ hz ≤ a → H1[a]? = H[a]?) (h : kStr hz U H) : kStr hz U H1 := by
  obtain ⟨k, v, h1, h2, h3⟩ := h
  exact ⟨k, v, h1, h2.kept hq, h3.kept hq⟩
/-- what the tables give: classes and arrays, nest mates' links; and what is kept -/
def kE (hz : Nat) (D : va_G) (cl : List vw_C) (tys : List (ClassId × FieldType)) (U : State) (H : Heap) : Prop := va_K D cl tys U ∧ (∀ w ∈ kNW, va_Nw w U) ∧ kStr hz U H ∧ ∀ q ∈ kNC, va_Nc q.1 q.2 U
theorem kE.warm {hz : Nat} {D : va_G} {cl : List vw_C} {tys : List (ClassId × FieldType)} {s U : State} {H : Heap} (hW : s.WarmedH U.vm) (h : kE hz D cl tys s H) : kE hz D cl tys U H := ⟨va_K.moved hW.alike h.1, fun w hw => kNW_warm hW w hw (h.2.1 w hw), h.2.2.1.warm hW, fun q hq => va_Nc.moved hW.alike (h.2.2.2 q hq)⟩
theorem kE.call {hz : Nat} {D : va_G} {cl : List vw_C} {tys : List (ClassId × FieldType)} {U : State} {H : Heap} {g : JFrame} {mk : MethodId} {a : Array Value} (h : kE hz D cl tys U H) : kE hz D cl tys (U.calling g mk a) H := ⟨va_K.moved (u := U) (U := U.calling g mk a) (Vm.Alike.refl U.vm) h.1, fun w hw => va_Nw.same (u := U) (U := U.calling g mk a) (kNW_t w hw) rfl (h.2.1 w hw), h.2.2.1.call, fun q hq => va_Nc.moved (u := U) (U := U.calling g mk a) (Vm.Alike.refl U.vm) (h.2.2.2 q hq)⟩
theorem kE.kept {hz : Nat} {D : va_G} {cl : List vw_C} {tys : List (ClassId × FieldType)} {U : State} {H0 H : Heap} {A : Nat → Prop} {locs : List Loc} (h : kE hz D cl tys U H0) (hS : va_S A H0 H locs) (hA : ∀ q, A q → hz ≤ q) : kE hz D cl tys U H := ⟨h.1, h.2.1, h.2.2.1.kept (fun q h1 h2 => hS.2.1 q h1 (fun z => h2 (hA q z))), h.2.2.2⟩
theorem kP_nil {D : va_G} {cl : List vw_C} {H : Heap} : va_P D cl [] H := fun k q h => by cases h
/-- a reading method's start and ends -/
def kR (hz : Nat) (D : va_G) (cl : List vw_C) (tys : List (ClassId × FieldType)) (wd : va_W) (av : List Value) : Array Value → State → Prop := va_Pc av (fun U => va_P D cl wd U.heap ∧ kE hz D cl tys U U.heap)
def kZi (v : Int32) : Array Value → State → Outcome → State → Prop := vp_Si (fun r => r = v)
def kZb (v : Int32) : Array Value → State → Outcome → State → Prop := vp_Si (fun r => r = v ∧ narrow .boolean (.int v) = .int v)
def kZl (v : Int64) : Array Value → State → Outcome → State → Prop := vp_Sl (fun r => r = v)
/-- an answer that is a cell or null -/
def kZr (r : Option Nat) : Array Value → State → Outcome → State → Prop := fun _ st o t => o = .returned (some (va_rf r)) ∧ t.heap = st.heap
theorem kRf_or (r : Option Nat) : va_rf r = .null ∨ ∃ a, va_rf r = .ref a := by
  cases r
  · exact Or.inl rfl
  · exact Or.inr ⟨_, rfl⟩
theorem kR.blind {hz : Nat} {D : va_G} {cl : List vw_C} {tys : List (ClassId × FieldType)} {wd : va_W} {av : List Value} : FrameBlind (kR hz D cl tys wd av) := fun _ _ _ _ h => ⟨h.1, h.2.1, h.2.2.call⟩
theorem kR.preS {hz : Nat} {D : va_G} {cl : List vw_C} {tys : List (ClassId × FieldType)} {wd : va_W} {As : List Value} {s : State} {H : Heap} (hP : va_P D cl wd H) (hE : kE hz D cl tys s H) : PreS s H (kR hz D cl tys wd As) As := ⟨kR.blind, fun U hU hW => ⟨rfl, by rw [hU]; exact hP, by rw [hU]; exact hE.warm hW⟩⟩
theorem kR.preV {hz : Nat} {D : va_G} {cl : List vw_C} {tys : List (ClassId × FieldType)} {wd : va_W} {As : List Value} {s : State} {H : Heap} {C : String} {b : Nat} (hr : ∃ cell : Cell, H[b]? = some cell ∧ cell.vm.isStatics = false ∧ s.vm.findClass C = some cell.cls) (hP : va_P D cl wd H) (hE : kE hz D cl tys s H) : PreV s H C b (kR hz D cl tys wd (.ref b :: As)) As := ⟨kR.blind, hr, fun U hU hW => ⟨rfl, by rw [hU]; exact hP, by rw [hU]; exact hE.warm hW⟩⟩
/-- a writing method's start and end: its world becomes another, of the same addresses -/
def kAd (wd : va_W) (q : Nat) : Prop := ∃ (k : Nat) (e : va_E), wd[k]? = some (q, e)
def kW (hz : Nat) (D : va_G) (cl : List vw_C) (tys : List (ClassId × FieldType)) (wd : va_W) (av : List Value) : Array Value → State → Prop := va_Pc av (fun U => va_P D cl wd U.heap ∧ kE hz D cl tys U U.heap ∧ va_D (fun q => hz ≤ q) wd)
def kQ (D : va_G) (cl : List vw_C) (o : Option Value) (wd wd' : va_W) : Array Value → State → Outcome → State → Prop := fun _ st oc t => oc = .returned o ∧ va_P D cl wd' t.heap ∧ va_F (kAd wd) st t
theorem kW.blind {hz : Nat} {D : va_G} {cl : List vw_C} {tys : List (ClassId × FieldType)} {wd : va_W} {av : List Value} : FrameBlind (kW hz D cl tys wd av) := fun _ _ _ _ h => ⟨h.1, h.2.1, h.2.2.1.call, h.2.2.2⟩
theorem kD_up {A B : Nat → Prop} {wd : va_W} (hD : va_D A wd) (hA : ∀ q, A q → B q) : va_D B wd := ⟨hD.1, fun k q h => hA _ (hD.2 k q h)⟩
theorem kW.preS {hz : Nat} {D : va_G} {cl : List vw_C} {tys : List (ClassId × FieldType)} {wd : va_W} {As : List Value} {s : State} {H : Heap} {A : Nat → Prop} (hP : va_P D cl wd H) (hE : kE hz D cl tys s H) (hD : va_D A wd) (hA : ∀ q, A q → hz ≤ q) : PreS s H (kW hz D cl tys wd As) As := ⟨kW.blind, fun U hU hW => ⟨rfl, by rw [hU]; exact hP, by rw [hU]; exact hE.warm hW, kD_up hD hA⟩⟩
theorem kW.preV {hz : Nat} {D : va_G} {cl : List vw_C} {tys : List (ClassId × FieldType)} {wd : va_W} {As : List Value} {s : State} {H : Heap} {C : String} {b : Nat} {A : Nat → Prop} (hr : ∃ cell : Cell, H[b]? = some cell ∧ cell.vm.isStatics = false ∧ s.vm.findClass C = some cell.cls) (hP : va_P D cl wd H) (hE : kE hz D cl tys s H) (hD : va_D A wd) (hA : ∀ q, A q → hz ≤ q) : PreV s H C b (kW hz D cl tys wd (.ref b :: As)) As := ⟨kW.blind, hr, fun U hU hW => ⟨rfl, by rw [hU]; exact hP, by rw [hU]; exact hE.warm hW, kD_up hD hA⟩⟩
theorem kAd_up {hz : Nat} {wd : va_W} (hD : va_D (fun q => hz ≤ q) wd) : ∀ q, kAd wd q → hz ≤ q := fun q ⟨k, e, h⟩ => hD.2 k (q, e) h
theorem kD_at {ws ws' : va_W} (h : ws'.map Prod.fst = ws.map Prod.fst) {k : Nat} {q : Nat × va_E} (hq : ws'[k]? = some q) : ∃ q', ws[k]? = some q' ∧ q'.1 = q.1 := by
  have h1 : (ws'.map Prod.fst)[k]? = some q.1 := by rw [List.getElem?_map, hq]; rfl
  rw [h, List.getElem?_map] at h1
  cases hw : ws[k]? with
  | none => rw [hw] at h1; cases h1
  | some q' => rw [hw] at h1; exact ⟨q', rfl, Option.some.inj h1⟩
theorem kD_fst {A : Nat → Prop} {ws ws' : va_W} (h : ws'.map Prod.fst = ws.map Prod.fst) (hD : va_D A ws) : va_D A ws' := by
  refine ⟨fun i j p q hp hq hpq => ?_, fun k q hq => ?_⟩
  · obtain ⟨p', h1, h2⟩ := kD_at h hp
    obtain ⟨q', h3, h4⟩ := kD_at h hq
    exact hD.1 i j p' q' h1 h3 (by rw [h2, h4, hpq])
  · obtain ⟨q', h3, h4⟩ := kD_at h hq
    rw [← h4]
    exact hD.2 k q' h3
theorem kD_self {A : Nat → Prop} {ws : va_W} (hD : va_D A ws) : va_D (kAd ws) ws := ⟨hD.1, fun k q hq => ⟨k, q.2, hq⟩⟩
section KGO
variable {p : Program} {l : Launch} {e : Env} {R : Room} {s : State} {m : MethodId} {args : Array Value} {below : List Frame} {meth : Method} {c : Code} {H : Heap} {locs : List Loc} {cells slots : Nat} {Q : State → Prop} {pc : Nat} {ls : Array Slot} {rest st0 : List Value} {a : Array Value} {A : Nat → Prop} {H0 : Heap}
theorem kL_nil {free : Addr → Prop} {L : List Loc} (hf : ∀ q, ¬ free q) (hL : ∀ q ∈ L, free q.base) : L = [] := List.eq_nil_iff_forall_not_mem.mpr (fun q hq => hf _ (hL q hq))
theorem kS_i {v : Int32} (hr : va_Run p l e R s m args below meth c H locs cells slots 0 0 (F0 m pc ls st0) rest (kZi v a) (fun _ => False)) (kk : W p l e R s m args below meth c H locs cells slots Q (F0 m (pc + 3) ls (.int v :: rest))) : W p l e R s m args below meth c H locs cells slots Q (F0 m pc ls st0) := by
  intro T hT X
  obtain ⟨v', st₀, t, T', L, h0, X', hL, e1, e2, ⟨r, hv, hp, hh⟩, st⟩ := hr T hT X
  cases hv; subst hp
  have hL0 := kL_nil (fun _ h => h) hL
  subst hL0
  rw [List.append_nil] at X'
  obtain ⟨t2, a1, b1⟩ := kk T' (by rw [e1, hh, h0]) X'
  exact ⟨t2, st t2 a1, b1⟩
theorem kS_b {v : Int32} (hr : va_Run p l e R s m args below meth c H locs cells slots 0 0 (F0 m pc ls st0) rest (kZb v a) (fun _ => False)) (kk : narrow .boolean (.int v) = .int v → W p l e R s m args below meth c H locs cells slots Q (F0 m (pc + 3) ls (.int v :: rest))) : W p l e R s m args below meth c H locs cells slots Q (F0 m pc ls st0) := by
  intro T hT X
  obtain ⟨v', st₀, t, T', L, h0, X', hL, e1, e2, ⟨r, hv, ⟨hp, hz⟩, hh⟩, st⟩ := hr T hT X
  cases hv; subst hp
  have hL0 := kL_nil (fun _ h => h) hL
  subst hL0
  rw [List.append_nil] at X'
  obtain ⟨t2, a1, b1⟩ := kk hz T' (by rw [e1, hh, h0]) X'
  exact ⟨t2, st t2 a1, b1⟩
theorem kS_r {r : Option Nat} (hr : va_Run p l e R s m args below meth c H locs cells slots 0 0 (F0 m pc ls st0) rest (kZr r a) (fun _ => False)) (kk : W p l e R s m args below meth c H locs cells slots Q (F0 m (pc + 3) ls (va_rf r :: rest))) : W p l e R s m args below meth c H locs cells slots Q (F0 m pc ls st0) := by
  intro T hT X
  obtain ⟨v', st₀, t, T', L, h0, X', hL, e1, e2, ⟨hv, hh⟩, st⟩ := hr T hT X
  cases hv
  have hL0 := kL_nil (fun _ h => h) hL
  subst hL0
  rw [List.append_nil] at X'
  obtain ⟨t2, a1, b1⟩ := kk T' (by rw [e1, hh, h0]) X'
  exact ⟨t2, st t2 a1, b1⟩
theorem kS_w {D : va_G} {cl : List vw_C} {o : Option Value} {wd wd' : va_W} (hr : va_Run p l e R s m args below meth c H locs cells slots 0 0 (F0 m pc ls st0) rest (kQ D cl o wd wd' a) (kAd wd)) (hD : va_D A wd) (hS : va_S A H0 H locs) (hf : wd'.map Prod.fst = wd.map Prod.fst)
    (kk : ∀ (H1 : Heap) (locs1 : List Loc), va_P D cl wd' H1 → va_D A wd' → va_S A H0 H1 locs1 → W p l e R s m args below meth c H1 locs1 cells slots Q (F0 m (pc + 3) ls (o.toList ++ rest))) : W p l e R s m args below meth c H locs cells slots Q (F0 m pc ls st0) := by
  have hin : ∀ q, kAd wd q → A q := fun q ⟨k, ee, h⟩ => hD.2 k (q, ee) h
  intro T hT X
  obtain ⟨v', st₀, t, T', L, h0, X', hL, e1, e2, ⟨hv, hp, hz, hk⟩, st⟩ := hr T hT X
  cases hv
  rw [h0] at hz hk
  obtain ⟨t2, a1, b1⟩ := kk T'.heap (locs ++ L) (by rw [e1]; exact hp) (kD_fst hf hD)
    ⟨Nat.le_trans hS.1 (by rw [e1]; exact hz), fun q h1 h2 => by rw [e1, hk q (Nat.lt_of_lt_of_le h1 hS.1) (fun z => h2 (hin q z))]; exact hS.2.1 q h1 h2, fun q hq => by
      rcases List.mem_append.mp hq with h | h
      · exact hS.2.2 q h
      · exact hin _ (hL q h)⟩ T' rfl X'
  exact ⟨t2, st t2 a1, b1⟩
end KGO
/-! guards, branches, binds, loops of the functions that the methods are turned into -/
def gd {α : Type} (b : Bool) (x : Option α) : Option α := match b with
  | true => x
  | false => none
theorem gd_s {α : Type} {b : Bool} {x : Option α} {o : α} (h : gd b x = some o) : b = true ∧ x = some o := by
  cases b
  · cases h
  · exact ⟨rfl, h⟩
theorem gd_t {α : Type} {b : Bool} {x : Option α} (h : b = true) : gd b x = x := by rw [h]; rfl
def inB (i : Int32) (n : Nat) : Bool := !(decide (i < 0) || decide (n ≤ i.toNatClampNeg))
theorem inB_in {i : Int32} {n : Nat} (h : inB i n = true) : vp_in i n := by
  intro h2
  rcases h2 with h2 | h2 <;> simp [inB, h2] at h
theorem inB_of {i : Int32} {n : Nat} (h : vp_in i n) : inB i n = true := by
  have h1 : ¬ i < 0 := fun z => h (Or.inl z)
  have h2 : ¬ n ≤ i.toNatClampNeg := fun z => h (Or.inr z)
  simp [inB, h1, Nat.lt_of_not_le h2]
theorem inB_nI {k n : Nat} (h : k < n) (hn : n < 2 ^ 31) : inB (nI k) n = true := inB_of (vp_in_nI h hn)
def nzB (y : Int32) : Bool := !(decide (y = 0))
theorem nzB_n {y : Int32} (h : nzB y = true) : ¬ y = 0 := by
  intro h2
  simp [nzB, h2] at h
def nzL (y : Int64) : Bool := !(decide (y = 0))
theorem nzL_n {y : Int64} (h : nzL y = true) : ¬ y = 0 := by
  intro h2
  simp [nzL, h2] at h
theorem it_p {α : Type} {c : Prop} [Decidable c] {x y o : α} (hc : c) (h : (if c then x else y) = o) : x = o := (if_pos hc).symm.trans h
theorem it_n {α : Type} {c : Prop} [Decidable c] {x y o : α} (hc : ¬ c) (h : (if c then x else y) = o) : y = o := (if_neg hc).symm.trans h
theorem bd_s {α β : Type} {x : Option α} {f : α → Option β} {o : β} (h : x.bind f = some o) : ∃ y, x = some y ∧ f y = some o := by
  cases x with
  | none => cases h
  | some y => exact ⟨y, rfl, h⟩
theorem mp_s {α β : Type} {f : α → β} {x : Option α} {o : β} (h : x.map f = some o) : ∃ y, x = some y ∧ f y = o := by
  cases x with
  | none => cases h
  | some y => exact ⟨y, rfl, Option.some.inj h⟩
def lpN {S R : Type} (b : S → Option (S ⊕ R)) : Nat → S → Option R
  | 0, _ => none
  | n + 1, s => match b s with
    | none => none
    | some (.inl s') => lpN b n s'
    | some (.inr r) => some r
def lpK {S R : Type} (b : S → Option (S ⊕ R)) (n : Nat) (P : R → Prop) : S ⊕ R → Prop
  | .inl s' => ∃ r, lpN b n s' = some r ∧ P r
  | .inr r => P r
theorem lpN_K {S R : Type} {b : S → Option (S ⊕ R)} {n : Nat} {s : S} {r : R} {P : R → Prop} (h : lpN b (n + 1) s = some r) (hP : P r) : ∃ x, b s = some x ∧ lpK b n P x := by
  unfold lpN at h
  split at h
  · cases h
  · rename_i s' hb
    exact ⟨_, hb, r, h, hP⟩
  · rename_i r' hb
    cases h
    exact ⟨_, hb, hP⟩
theorem lpN_i {S R : Type} {b : S → Option (S ⊕ R)} {n : Nat} {s s' : S} (h : b s = some (.inl s')) : lpN b (n + 1) s = lpN b n s' := by
  rw [lpN, h]
theorem lpN_o {S R : Type} {b : S → Option (S ⊕ R)} {n : Nat} {s : S} {r : R} (h : b s = some (.inr r)) : lpN b (n + 1) s = some r := by
  rw [lpN, h]
/-- how often a loop may go round: more than any run needs -/
def kFu : Nat := 100000
/-- a row of the rows' function is replaced -/
def us (a : Nat → Nat → Int32) (j : Nat) (r : Nat → Int32) : Nat → Nat → Int32 := fun k => if k = j then r else a k
abbrev ST : Type := (Nat → Int32) × (Nat → Int64) × (Nat → Nat → Int32)
theorem lp_z {S R : Type} {b : S → Option (S ⊕ R)} {s : S} {r : R} (h : lpN b 0 s = some r) : False := by
  unfold lpN at h
  cases h
theorem kSet_fst {ws : va_W} {q0 b : Nat} {e e' : va_E} (h : ws[q0]? = some (b, e')) : (ws.set q0 (b, e)).map Prod.fst = ws.map Prod.fst := by
  apply List.ext_getElem?
  intro k
  rw [List.getElem?_map, List.getElem?_map]
  by_cases hk : q0 = k
  · subst hk
    rw [List.getElem?_set_self (List.getElem?_eq_some_iff.mp h).1, h]
    rfl
  · rw [List.getElem?_set_ne hk]
/-- a place of a row of the rows' function is replaced -/
def ua (a : Nat → Nat → Int32) (j i : Nat) (v : Int32) : Nat → Nat → Int32 := fun k => if k = j then upd (a j) i v else a k
