/-! ===== the law's loop, by program (tools/law.py), over what each call must answer ===== -/
def dX (ad : Nat → Nat) : List Nat := [ad 0, ad 1, ad 2, ad 3, ad 4, ad 5, ad 6, ad 7, ad 8, ad 9, ad 10, ad 11, ad 12, ad 13, ad 14, ad 15, ad 16, ad 17, ad 18, ad 19, ad 20, ad 21, ad 22, ad 23, ad 24, ad 25, ad 26, ad 27, ad 28, ad 29, ad 30, ad 31]
def dM (ad : Nat → Nat) : List Nat := [ad 0, ad 2, ad 3, ad 4, ad 5, ad 9, ad 10, ad 11, ad 15, ad 16, ad 18, ad 24, ad 25, ad 26, ad 27, ad 28, ad 29]
theorem kAd_mem {ws : va_W} {q : Nat} : kAd ws q ↔ q ∈ ws.map Prod.fst := by
  constructor
  · rintro ⟨k, e, h⟩
    exact List.mem_map.mpr ⟨(q, e), List.mem_of_getElem? h, rfl⟩
  · intro h
    obtain ⟨⟨q', e⟩, h1, rfl⟩ := List.mem_map.mp h
    obtain ⟨k, h2⟩ := List.getElem?_of_mem h1
    exact ⟨k, e, h2⟩
theorem kP_kept {D : va_G} {cl : List vw_C} {wo : va_W} {H H1 : Heap} {A : Nat → Prop} (hP : va_P D cl wo H) (hk : ∀ q : Nat, q < H.size → ¬ A q → H1[q]? = H[q]?) (ha : ∀ q, kAd wo q → ¬ A q) : va_P D cl wo H1 := fun k q hq => (hP k q hq).kept (hk q.1 ((hP k q hq).lt) (ha q.1 ⟨k, q.2, hq⟩))
theorem kApart {wd wo : va_W} {dd do' : List Nat} (h1 : wd.map Prod.fst = dd) (h2 : wo.map Prod.fst = do') (h : ∀ q ∈ dd, q ∉ do') : ∀ q, kAd wo q → ¬ kAd wd q := fun q a b => h q (h1 ▸ kAd_mem.mp b) (h2 ▸ kAd_mem.mp a)
theorem kApart' {wd wo : va_W} {dd do' : List Nat} (h1 : wd.map Prod.fst = dd) (h2 : wo.map Prod.fst = do') (h : ∀ q ∈ do', q ∉ dd) : ∀ q, kAd wo q → ¬ kAd wd q := fun q a b => h q (h2 ▸ kAd_mem.mp a) (h1 ▸ kAd_mem.mp b)
section KGL
variable {p : Program} {l : Launch} {e : Env} {R : Room} {s : State} {m : MethodId} {args : Array Value} {below : List Frame} {meth : Method} {c : Code} {H : Heap} {locs : List Loc} {cells slots : Nat} {Q : State → Prop} {pc : Nat} {ls : Array Slot} {rest st0 : List Value} {a : Array Value} {A : Nat → Prop} {H0 : Heap}
theorem kS_w2 {D : va_G} {cl : List vw_C} {o : Option Value} {wd wd' wo : va_W} (hr : va_Run p l e R s m args below meth c H locs cells slots 0 0 (F0 m pc ls st0) rest (kQ D cl o wd wd' a) (kAd wd)) (hD : va_D A wd) (hPo : va_P D cl wo H) (hap : ∀ q, kAd wo q → ¬ kAd wd q) (hS : va_S A H0 H locs) (hf : wd'.map Prod.fst = wd.map Prod.fst)
    (kk : ∀ (H1 : Heap) (locs1 : List Loc), va_P D cl wd' H1 → va_P D cl wo H1 → va_D A wd' → va_S A H0 H1 locs1 → W p l e R s m args below meth c H1 locs1 cells slots Q (F0 m (pc + 3) ls (o.toList ++ rest))) : W p l e R s m args below meth c H locs cells slots Q (F0 m pc ls st0) := by
  have hin : ∀ q, kAd wd q → A q := fun q ⟨k, ee, h⟩ => hD.2 k (q, ee) h
  intro T hT X
  obtain ⟨v', st₀, t, T', L, h0, X', hL, e1, e2, ⟨hv, hp, hz, hk⟩, st⟩ := hr T hT X
  cases hv
  rw [h0] at hz hk
  obtain ⟨t2, a1, b1⟩ := kk T'.heap (locs ++ L) (by rw [e1]; exact hp) (kP_kept hPo (fun q h1 h2 => by rw [e1]; exact hk q h1 h2) hap) (kD_fst hf hD)
    ⟨Nat.le_trans hS.1 (by rw [e1]; exact hz), fun q h1 h2 => by rw [e1, hk q (Nat.lt_of_lt_of_le h1 hS.1) (fun z => h2 (hin q z))]; exact hS.2.1 q h1 h2, fun q hq => by
      rcases List.mem_append.mp hq with h | h
      · exact hS.2.2 q h
      · exact hin _ (hL q h)⟩ T' rfl X'
  exact ⟨t2, st t2 a1, b1⟩
end KGL
abbrev st_letter (Rel : Nat → ST → ST → Prop) : Prop := ∀ (k : Nat), k < 2 ^ 20 → ∀ (f : Nat → Int32) (g : Nat → Int64) (a : Nat → Nat → Int32) (f' : Nat → Int32) (g' : Nat → Int64) (a' : Nat → Nat → Int32) (x0 : Int32), Rel k (f, g, a) (f', g', a') → ∃ r : Int32, ∃ X2 : ST, ∃ M2 : ST, F_X11_letter f g a x0 = some (r, X2) ∧ F_X12_letter f' g' a' x0 = some (r, M2) ∧ Rel (k + 4) X2 M2
abbrev st_blank (Rel : Nat → ST → ST → Prop) : Prop := ∀ (k : Nat), k < 2 ^ 20 → ∀ (f : Nat → Int32) (g : Nat → Int64) (a : Nat → Nat → Int32) (f' : Nat → Int32) (g' : Nat → Int64) (a' : Nat → Nat → Int32), Rel k (f, g, a) (f', g', a') → ∃ r : Int32, ∃ X2 : ST, ∃ M2 : ST, F_X11_blank f g a = some (r, X2) ∧ F_X12_blank f' g' a' = some (r, M2) ∧ Rel (k + 4) X2 M2
abbrev st_fault (Rel : Nat → ST → ST → Prop) : Prop := ∀ (k : Nat), k < 2 ^ 20 → ∀ (f : Nat → Int32) (g : Nat → Int64) (a : Nat → Nat → Int32) (f' : Nat → Int32) (g' : Nat → Int64) (a' : Nat → Nat → Int32), Rel k (f, g, a) (f', g', a') → ∃ r : Int32, F_X11_fault f g a = some r ∧ F_X12_fault f' g' a' = some r ∧ Rel (k + 4) (f, g, a) (f', g', a')
abbrev st_town (Rel : Nat → ST → ST → Prop) : Prop := ∀ (k : Nat), k < 2 ^ 20 → ∀ (f : Nat → Int32) (g : Nat → Int64) (a : Nat → Nat → Int32) (f' : Nat → Int32) (g' : Nat → Int64) (a' : Nat → Nat → Int32), Rel k (f, g, a) (f', g', a') → ∃ r : Int32, ∃ X2 : ST, ∃ M2 : ST, F_X11_town f g a = some (r, X2) ∧ F_X12_town f' g' a' = some (r, M2) ∧ Rel (k + 4) X2 M2
abbrev st_about (Rel : Nat → ST → ST → Prop) : Prop := ∀ (k : Nat), k < 2 ^ 20 → ∀ (f : Nat → Int32) (g : Nat → Int64) (a : Nat → Nat → Int32) (f' : Nat → Int32) (g' : Nat → Int64) (a' : Nat → Nat → Int32) (x0 x1 : Int32), Rel k (f, g, a) (f', g', a') → ∃ r : Int32, F_X11_about f g a x0 x1 = some r ∧ F_X12_about f' g' a' x0 x1 = some r ∧ Rel (k + 4) (f, g, a) (f', g', a')
abbrev st_as (Rel : Nat → ST → ST → Prop) : Prop := ∀ (k : Nat), k < 2 ^ 20 → ∀ (f : Nat → Int32) (g : Nat → Int64) (a : Nat → Nat → Int32) (f' : Nat → Int32) (g' : Nat → Int64) (a' : Nat → Nat → Int32) (x0 x1 : Int32), Rel k (f, g, a) (f', g', a') → ∃ r : Int32, F_X11_as f g a x0 x1 = r ∧ F_X12_as f' g' a' x0 x1 = some r ∧ Rel (k + 4) (f, g, a) (f', g', a')
abbrev st_go (Rel : Nat → ST → ST → Prop) : Prop := ∀ (k : Nat), k < 2 ^ 20 → ∀ (f : Nat → Int32) (g : Nat → Int64) (a : Nat → Nat → Int32) (f' : Nat → Int32) (g' : Nat → Int64) (a' : Nat → Nat → Int32) (x0 x1 : Int32), Rel k (f, g, a) (f', g', a') → ∃ r : Int32, ∃ X2 : ST, ∃ M2 : ST, F_X11_go f g a x0 x1 = some (r, X2) ∧ F_X12_go f' g' a' x0 x1 = some (r, M2) ∧ Rel (k + 4) X2 M2
abbrev st_sell (Rel : Nat → ST → ST → Prop) : Prop := ∀ (k : Nat), k < 2 ^ 20 → ∀ (f : Nat → Int32) (g : Nat → Int64) (a : Nat → Nat → Int32) (f' : Nat → Int32) (g' : Nat → Int64) (a' : Nat → Nat → Int32) (x0 x1 x2 : Int32), Rel k (f, g, a) (f', g', a') → ∃ r : Int32, ∃ X2 : ST, ∃ M2 : ST, F_X11_sell f g a x0 x1 x2 = some (r, X2) ∧ F_X12_sell f' g' a' x0 x1 x2 = some (r, M2) ∧ Rel (k + 4) X2 M2
abbrev st_quarrel (Rel : Nat → ST → ST → Prop) : Prop := ∀ (k : Nat), k < 2 ^ 20 → ∀ (f : Nat → Int32) (g : Nat → Int64) (a : Nat → Nat → Int32) (f' : Nat → Int32) (g' : Nat → Int64) (a' : Nat → Nat → Int32) (x0 x1 x2 : Int32), Rel k (f, g, a) (f', g', a') → (x2 = 0 ∨ x2 = 1) → ∃ r : Int32, ∃ X2 : ST, ∃ M2 : ST, F_X11_quarrel f g a x0 x1 x2 = some (r, X2) ∧ F_X12_quarrel f' g' a' x0 x1 x2 = some (r, M2) ∧ Rel (k + 4) X2 M2
abbrev st_written (Rel : Nat → ST → ST → Prop) : Prop := ∀ (k : Nat), k < 2 ^ 20 → ∀ (f : Nat → Int32) (g : Nat → Int64) (a : Nat → Nat → Int32) (f' : Nat → Int32) (g' : Nat → Int64) (a' : Nat → Nat → Int32) (x0 x1 : Int32), Rel k (f, g, a) (f', g', a') → ∃ r : Int32, F_X11_written f g a x0 x1 = r ∧ F_X12_written f' g' a' x0 x1 = some r ∧ Rel (k + 4) (f, g, a) (f', g', a')
abbrev st_moves (Rel : Nat → ST → ST → Prop) : Prop := ∀ (k : Nat), k < 2 ^ 20 → ∀ (f : Nat → Int32) (g : Nat → Int64) (a : Nat → Nat → Int32) (f' : Nat → Int32) (g' : Nat → Int64) (a' : Nat → Nat → Int32) (x0 x1 : Int32), Rel k (f, g, a) (f', g', a') → ∃ r : Int32, ∃ X2 : ST, ∃ M2 : ST, F_X11_moves f g a x0 x1 = some (r, X2) ∧ F_X12_moves f' g' a' x0 x1 = some (r, M2) ∧ Rel (k + 4) X2 M2
abbrev st_days (Rel : Nat → ST → ST → Prop) : Prop := ∀ (k : Nat), k < 2 ^ 20 → ∀ (f : Nat → Int32) (g : Nat → Int64) (a : Nat → Nat → Int32) (f' : Nat → Int32) (g' : Nat → Int64) (a' : Nat → Nat → Int32) (x0 x1 : Int32), Rel k (f, g, a) (f', g', a') → ∃ r : Int32, ∃ X2 : ST, ∃ M2 : ST, F_X11_days f g a x0 x1 = some (r, X2) ∧ F_X12_days f' g' a' x0 x1 = some (r, M2) ∧ Rel (k + 4) X2 M2
abbrev st_hear (Rel : Nat → ST → ST → Prop) : Prop := ∀ (k : Nat), k < 2 ^ 20 → ∀ (f : Nat → Int32) (g : Nat → Int64) (a : Nat → Nat → Int32) (f' : Nat → Int32) (g' : Nat → Int64) (a' : Nat → Nat → Int32) (x0 x1 x2 : Int32), Rel k (f, g, a) (f', g', a') → (x2 = 0 ∨ x2 = 1) → ∃ r : Int32, ∃ X2 : ST, ∃ M2 : ST, F_X11_hear f g a x0 x1 x2 = some (r, X2) ∧ F_X12_hear f' g' a' x0 x1 x2 = some (r, M2) ∧ Rel (k + 4) X2 M2
abbrev st_forget (Rel : Nat → ST → ST → Prop) : Prop := ∀ (k : Nat), k < 2 ^ 20 → ∀ (f : Nat → Int32) (g : Nat → Int64) (a : Nat → Nat → Int32) (f' : Nat → Int32) (g' : Nat → Int64) (a' : Nat → Nat → Int32), Rel k (f, g, a) (f', g', a') → ∃ r : Int32, ∃ X2 : ST, ∃ M2 : ST, F_X11_forget f g a = some (r, X2) ∧ F_X12_forget f' g' a' = some (r, M2) ∧ Rel (k + 4) X2 M2
abbrev st_holders (Rel : Nat → ST → ST → Prop) : Prop := ∀ (k : Nat), k < 2 ^ 20 → ∀ (f : Nat → Int32) (g : Nat → Int64) (a : Nat → Nat → Int32) (f' : Nat → Int32) (g' : Nat → Int64) (a' : Nat → Nat → Int32) (x0 x1 : Int32), Rel k (f, g, a) (f', g', a') → ∃ r : Int32, ∃ X2 : ST, F_X11_holders f g a x0 x1 = some (r, X2) ∧ F_X12_holders f' g' a' x0 x1 = some r ∧ Rel (k + 4) X2 (f', g', a')
abbrev st_invite (Rel : Nat → ST → ST → Prop) : Prop := ∀ (k : Nat), k < 2 ^ 20 → ∀ (f : Nat → Int32) (g : Nat → Int64) (a : Nat → Nat → Int32) (f' : Nat → Int32) (g' : Nat → Int64) (a' : Nat → Nat → Int32) (x0 : Int32), Rel k (f, g, a) (f', g', a') → ∃ r : Int32, ∃ X2 : ST, F_X11_invite f g a x0 = some (r, X2) ∧ F_X12_invite f' g' a' x0 = some r ∧ Rel (k + 4) X2 (f', g', a')
abbrev st_years (Rel : Nat → ST → ST → Prop) : Prop := ∀ (k : Nat), k < 2 ^ 20 → ∀ (f : Nat → Int32) (g : Nat → Int64) (a : Nat → Nat → Int32) (f' : Nat → Int32) (g' : Nat → Int64) (a' : Nat → Nat → Int32) (x0 x1 x2 : Int32), Rel k (f, g, a) (f', g', a') → ∃ r : Int32, ∃ X2 : ST, ∃ M2 : ST, F_X11_years f g a x0 x1 x2 = some (r, X2) ∧ F_X12_years f' g' a' x0 x1 x2 = some (r, M2) ∧ Rel (k + 4) X2 M2
abbrev st_image (Rel : Nat → ST → ST → Prop) : Prop := ∀ (k : Nat), k < 2 ^ 20 → ∀ (f : Nat → Int32) (g : Nat → Int64) (a : Nat → Nat → Int32) (f' : Nat → Int32) (g' : Nat → Int64) (a' : Nat → Nat → Int32), Rel k (f, g, a) (f', g', a') → ∃ r : Int32, ∃ X2 : ST, ∃ M2 : ST, F_X11_image f g a = some (r, X2) ∧ F_X12_image f' g' a' = some (r, M2) ∧ Rel (k + 4) X2 M2
abbrev st_restore (Rel : Nat → ST → ST → Prop) : Prop := ∀ (k : Nat), k < 2 ^ 20 → ∀ (f : Nat → Int32) (g : Nat → Int64) (a : Nat → Nat → Int32) (f' : Nat → Int32) (g' : Nat → Int64) (a' : Nat → Nat → Int32), Rel k (f, g, a) (f', g', a') → ∃ r : Int32, ∃ X2 : ST, ∃ M2 : ST, F_X11_restore f g a = some (r, X2) ∧ F_X12_restore f' g' a' = some (r, M2) ∧ Rel (k + 4) X2 M2
abbrev st_count (Rel : Nat → ST → ST → Prop) : Prop := ∀ (k : Nat), k < 2 ^ 20 → ∀ (f : Nat → Int32) (g : Nat → Int64) (a : Nat → Nat → Int32) (f' : Nat → Int32) (g' : Nat → Int64) (a' : Nat → Nat → Int32) (x0 : Int32), Rel k (f, g, a) (f', g', a') → ∃ r : Int32, F_X11_count f g a x0 = some r ∧ F_X12_count f' g' a' x0 = some r ∧ Rel (k + 4) (f, g, a) (f', g', a')
abbrev st_digest (Rel : Nat → ST → ST → Prop) : Prop := ∀ (k : Nat), k < 2 ^ 20 → ∀ (f : Nat → Int32) (g : Nat → Int64) (a : Nat → Nat → Int32) (f' : Nat → Int32) (g' : Nat → Int64) (a' : Nat → Nat → Int32), Rel k (f, g, a) (f', g', a') → ∃ r : Int64, ∃ X2 : ST, ∃ M2 : ST, F_X11_digest f g a = some (r, X2) ∧ F_X12_digest f' g' a' = some (r, M2) ∧ Rel (k + 4) X2 M2
set_option maxHeartbeats 40000000 in
set_option maxRecDepth 100000 in
theorem law_loop {p : Program} {l : Launch} {e : Env} {s : State} {m : MethodId} {below : List Frame} {meth : Method} {c : Code} {D : va_G} {b L : Nat} {xs : Nat → Int32} (hL : L ≤ 256) (C0 : lw_At p s m meth c b L xs) (adx : Nat → Nat) (ckx : Nat → ClassId) (adm : Nat → Nat) (ckm : Nat → ClassId) (hap : ∀ q ∈ dX adx, q ∉ dM adm) (hEx : kE s.heap.size D vwCl (tX ckx) s s.heap) (hEm : kE s.heap.size D vwCl (tM ckm) s s.heap) (Rel : Nat → ST → ST → Prop) (h_mono : ∀ (k : Nat) (X M : ST), Rel k X M → Rel (k + 4) X M) (h_letter : st_letter Rel) (h_blank : st_blank Rel) (h_fault : st_fault Rel) (h_town : st_town Rel) (h_about : st_about Rel) (h_as : st_as Rel) (h_go : st_go Rel) (h_sell : st_sell Rel) (h_quarrel : st_quarrel Rel) (h_written : st_written Rel) (h_moves : st_moves Rel) (h_days : st_days Rel) (h_hear : st_hear Rel) (h_forget : st_forget Rel) (h_holders : st_holders Rel) (h_invite : st_invite Rel) (h_years : st_years Rel) (h_image : st_image Rel) (h_restore : st_restore Rel) (h_count : st_count Rel) (h_digest : st_digest Rel) : ∀ (n i : Nat) (x3 : Int32), i < 2 ^ 20 → L < i + n → x3 = nI i → ∀ (fx : Nat → Int32) (gx : Nat → Int64) (ax : Nat → Nat → Int32) (fm : Nat → Int32) (gm : Nat → Int64) (am : Nat → Nat → Int32), Rel i (fx, gx, ax) (fm, gm, am) → ∀ (H : Heap) (locs : List Loc), va_P D vwCl (wX adx ckx fx gx ax) H → va_P D vwCl (wM adm ckm fm gm am) H → va_D (fun q : Nat => s.heap.size ≤ q) (wX adx ckx fx gx ax) → va_D (fun q : Nat => s.heap.size ≤ q) (wM adm ckm fm gm am) → va_S (fun q : Nat => s.heap.size ≤ q) s.heap H locs → ∀ (ls : Array Slot), lv_has ls 4 [(0, .ref b), (1, .ref (adx 0)), (2, .ref (adm 0)), (3, .int x3)] → W p l e room_1 s m #[Value.ref b] below meth c H locs 600000 7302250 (lw_Z below #[Value.ref b] s) (F0 m 18 ls []) := by
  obtain ⟨hx, hb, hr, hml, hown, hts, hX, hbl, hlocks, hgv⟩ := C0
  have hts := fun w h => hts w (wsL_law_in w h)
  have hown : s.vm.findClass RL = some m.cls := hown
  have hbA : ¬ (fun q : Nat => s.heap.size ≤ q) b := Nat.not_le.mpr hbl
  have hap' : ∀ q ∈ dM adm, q ∉ dX adx := fun q h1 h2 => hap q h2 h1
  have hid : ∀ q, (fun q : Nat => s.heap.size ≤ q) q → s.heap.size ≤ q := fun _ h => h
  have hKx := hEx.1
  have hKm := hEm.1
  intro n
  induction n with
  | zero =>
    intro i x3 hi hin ex3 fx gx ax fm gm am hRel H locs hPx hPm hDx hDm hS ls hl
    refine lv_iload_n hx hb dL_law_18 rfl (lv_at hl 3 rfl) ?_
    refine lv_aload_n hx hb dL_law_19 rfl (lv_at hl 0 rfl) ?_
    refine va_slen hx hb hX hbl hbA hS dL_law_20 ?_
    refine lv_iconst (v := 4) hx hb dL_law_21 (by decide) ?_
    refine lv_isub hx hb dL_law_22 ?_
    refine lv_icmp_gt (tgt := 734) hx hb dL_law_23 (by decide) (fun c_0 => ?_) (fun c_0 => ?_)
    · refine lv_iconst (v := 1) hx hb dL_law_734 (by decide) ?_
      refine va_forget (fun q hq => hS.2.2 q hq) ?_
      refine W.widen (k := 600000) (n := 7302250) (Nat.le_refl 600000) (Nat.le_refl 7302250) ?_
      exact lw_ret hx hb hr hlocks dL_law_735
    · have hi4 : i + 4 ≤ L := law_in hi hL (by rw [← ex3]; exact c_0)
      omega
  | succ n ih =>
    intro i x3 hi hin ex3 fx gx ax fm gm am hRel H locs hPx hPm hDx hDm hS ls hl
    refine lv_iload_n hx hb dL_law_18 rfl (lv_at hl 3 rfl) ?_
    refine lv_aload_n hx hb dL_law_19 rfl (lv_at hl 0 rfl) ?_
    refine va_slen hx hb hX hbl hbA hS dL_law_20 ?_
    refine lv_iconst (v := 4) hx hb dL_law_21 (by decide) ?_
    refine lv_isub hx hb dL_law_22 ?_
    refine lv_icmp_gt (tgt := 734) hx hb dL_law_23 (by decide) (fun c_0 => ?_) (fun c_0 => ?_)
    · refine lv_iconst (v := 1) hx hb dL_law_734 (by decide) ?_
      refine va_forget (fun q hq => hS.2.2 q hq) ?_
      refine W.widen (k := 600000) (n := 7302250) (Nat.le_refl 600000) (Nat.le_refl 7302250) ?_
      exact lw_ret hx hb hr hlocks dL_law_735
    · have hi4 : i + 4 ≤ L := law_in hi hL (by rw [← ex3]; exact c_0)
      have hv0 : vp_in x3 L := by rw [ex3]; exact vp_in_nI (by omega) (by omega)
      have hv1 : vp_in (x3 + 1) L := by rw [ex3, show nI i + (1 : Int32) = nI (i + 1) from nI_add i 1]; exact vp_in_nI (by omega) (by omega)
      have hv2 : vp_in (x3 + 2) L := by rw [ex3, show nI i + (2 : Int32) = nI (i + 2) from nI_add i 2]; exact vp_in_nI (by omega) (by omega)
      have hv3 : vp_in (x3 + 3) L := by rw [ex3, show nI i + (3 : Int32) = nI (i + 3) from nI_add i 3]; exact vp_in_nI (by omega) (by omega)
      have next : ∀ (fx : Nat → Int32) (gx : Nat → Int64) (ax : Nat → Nat → Int32) (fm : Nat → Int32) (gm : Nat → Int64) (am : Nat → Nat → Int32), Rel (i + 4) (fx, gx, ax) (fm, gm, am) → ∀ (H : Heap) (locs : List Loc), va_P D vwCl (wX adx ckx fx gx ax) H → va_P D vwCl (wM adm ckm fm gm am) H → va_D (fun q : Nat => s.heap.size ≤ q) (wX adx ckx fx gx ax) → va_D (fun q : Nat => s.heap.size ≤ q) (wM adm ckm fm gm am) → va_S (fun q : Nat => s.heap.size ≤ q) s.heap H locs → W p l e room_1 s m #[Value.ref b] below meth c H locs 600000 7302250 (lw_Z below #[Value.ref b] s) (F0 m 728 ls []) := by
        intro fx gx ax fm gm am hRel H locs hPx hPm hDx hDm hS
        refine lv_iinc (v := x3 + 4) (lv' := [(3, .int (x3 + 4)), (0, .ref b), (1, .ref (adx 0)), (2, .ref (adm 0))]) hx hb dL_law_728 hl (k := 3) rfl rfl (by decide) rfl (fun ls hl => ?_)
        refine lv_goto (tgt := 18) hx hb dL_law_731 (by decide) ?_
        exact ih (i + 4) (x3 + 4) (by omega) (by omega) (by rw [ex3, show nI i + (4 : Int32) = nI (i + 4) from nI_add i 4]) fx gx ax fm gm am hRel H locs hPx hPm hDx hDm hS ls (lv_sub hl [1, 2, 3, 0] rfl)
      refine lv_aload_n hx hb dL_law_26 rfl (lv_at hl 0 rfl) ?_
      refine lv_iload_n hx hb dL_law_27 rfl (lv_at hl 3 rfl) ?_
      refine va_sld hx hb hX hbl hbA hS hv0 dL_law_28 ?_
      refine lv_bipush (v := 31) hx hb dL_law_29 (by decide) ?_
      refine lv_iand hx hb dL_law_31 ?_
      refine lv_topi (fun sw hsw => ?_)
      by_cases hc0 : sw = 0
      · refine lv_tableIn (tgt := 132) (off := 100) hx hb dL_law_32 (by rw [hc0]; decide) (by rw [hc0]; decide) (by rw [hc0]; rfl) (by decide) ?_
        refine lv_aload_n hx hb dL_law_132 rfl (lv_at hl 1 rfl) ?_
        refine lv_aload_n hx hb dL_law_133 rfl (lv_at hl 0 rfl) ?_
        refine lv_iload_n hx hb dL_law_134 rfl (lv_at hl 3 rfl) ?_
        refine lv_iconst (v := 1) hx hb dL_law_135 (by decide) ?_
        refine lv_iadd hx hb dL_law_136 ?_
        refine va_sld hx hb hX hbl hbA hS hv1 dL_law_137 ?_
        obtain ⟨r, ⟨fx2, gx2, ax2⟩, ⟨fm2, gm2, am2⟩, e1, e2, hRel2⟩ := h_letter i hi fx gx ax fm gm am (xs (x3 + 1).toNatClampNeg) hRel
        refine kS_w2 (va_runV (As := [.int (xs (x3 + 1).toNatClampNeg)]) (rest := []) ⟨hx, hb, hml, hown, hts⟩ (c_X11_letter l s.heap.size D adx ckx fx gx ax (xs (x3 + 1).toNatClampNeg) (r, fx2, gx2, ax2) e1) (cwV 1 hts gL_law_X11_letter rfl rfl rfl ⟨rfl, pX11_letter⟩ ⟨Nat.le_of_ble_eq_true rfl, Nat.le_of_ble_eq_true rfl⟩) (kW.preV (va_recv hKx hPx (ci := 11) (q0 := 0) rfl rfl) hPx (hEx.kept hS hid) hDx hid) rfl rfl hl.1 rfl (lv_room (Nat.le_of_ble_eq_true rfl)) dL_law_138 ⟨Nat.le_of_ble_eq_true rfl, Nat.le_of_ble_eq_true rfl⟩) hDx hPm (kApart rfl rfl hap) hS rfl (fun H locs hPx hPm hDx hS => ?_)
        refine lv_aload_n hx hb dL_law_141 rfl (lv_at hl 2 rfl) ?_
        refine lv_aload_n hx hb dL_law_142 rfl (lv_at hl 0 rfl) ?_
        refine lv_iload_n hx hb dL_law_143 rfl (lv_at hl 3 rfl) ?_
        refine lv_iconst (v := 1) hx hb dL_law_144 (by decide) ?_
        refine lv_iadd hx hb dL_law_145 ?_
        refine va_sld hx hb hX hbl hbA hS hv1 dL_law_146 ?_
        refine kS_w2 (va_runV (As := [.int (xs (x3 + 1).toNatClampNeg)]) (rest := [.int r]) ⟨hx, hb, hml, hown, hts⟩ (c_X12_letter l s.heap.size D adm ckm fm gm am (xs (x3 + 1).toNatClampNeg) (r, fm2, gm2, am2) e2) (cwV 1 hts gL_law_X12_letter rfl rfl rfl ⟨rfl, pX12_letter⟩ ⟨Nat.le_of_ble_eq_true rfl, Nat.le_of_ble_eq_true rfl⟩) (kW.preV (va_recv hKm hPm (ci := 12) (q0 := 0) rfl rfl) hPm (hEm.kept hS hid) hDm hid) rfl rfl hl.1 rfl (lv_room (Nat.le_of_ble_eq_true rfl)) dL_law_147 ⟨Nat.le_of_ble_eq_true rfl, Nat.le_of_ble_eq_true rfl⟩) hDm hPx (kApart' rfl rfl hap) hS rfl (fun H locs hPm hPx hDm hS => ?_)
        refine lv_icmp_eq (tgt := 728) hx hb dL_law_150 (by decide) (fun _ => ?_) (fun z => absurd rfl z)
        exact next fx2 gx2 ax2 fm2 gm2 am2 hRel2 _ _ hPx hPm hDx hDm hS
      by_cases hc1 : sw = 1
      · refine lv_tableIn (tgt := 155) (off := 123) hx hb dL_law_32 (by rw [hc1]; decide) (by rw [hc1]; decide) (by rw [hc1]; rfl) (by decide) ?_
        refine lv_aload_n hx hb dL_law_155 rfl (lv_at hl 1 rfl) ?_
        obtain ⟨r, ⟨fx2, gx2, ax2⟩, ⟨fm2, gm2, am2⟩, e1, e2, hRel2⟩ := h_blank i hi fx gx ax fm gm am  hRel
        refine kS_w2 (va_runV (As := []) (rest := []) ⟨hx, hb, hml, hown, hts⟩ (c_X11_blank l s.heap.size D adx ckx fx gx ax  (r, fx2, gx2, ax2) e1) (cwV 0 hts gL_law_X11_blank rfl rfl rfl ⟨rfl, pX11_blank⟩ ⟨Nat.le_of_ble_eq_true rfl, Nat.le_of_ble_eq_true rfl⟩) (kW.preV (va_recv hKx hPx (ci := 11) (q0 := 0) rfl rfl) hPx (hEx.kept hS hid) hDx hid) rfl rfl hl.1 rfl (lv_room (Nat.le_of_ble_eq_true rfl)) dL_law_156 ⟨Nat.le_of_ble_eq_true rfl, Nat.le_of_ble_eq_true rfl⟩) hDx hPm (kApart rfl rfl hap) hS rfl (fun H locs hPx hPm hDx hS => ?_)
        refine lv_aload_n hx hb dL_law_159 rfl (lv_at hl 2 rfl) ?_
        refine kS_w2 (va_runV (As := []) (rest := [.int r]) ⟨hx, hb, hml, hown, hts⟩ (c_X12_blank l s.heap.size D adm ckm fm gm am  (r, fm2, gm2, am2) e2) (cwV 0 hts gL_law_X12_blank rfl rfl rfl ⟨rfl, pX12_blank⟩ ⟨Nat.le_of_ble_eq_true rfl, Nat.le_of_ble_eq_true rfl⟩) (kW.preV (va_recv hKm hPm (ci := 12) (q0 := 0) rfl rfl) hPm (hEm.kept hS hid) hDm hid) rfl rfl hl.1 rfl (lv_room (Nat.le_of_ble_eq_true rfl)) dL_law_160 ⟨Nat.le_of_ble_eq_true rfl, Nat.le_of_ble_eq_true rfl⟩) hDm hPx (kApart' rfl rfl hap) hS rfl (fun H locs hPm hPx hDm hS => ?_)
        refine lv_icmp_eq (tgt := 728) hx hb dL_law_163 (by decide) (fun _ => ?_) (fun z => absurd rfl z)
        exact next fx2 gx2 ax2 fm2 gm2 am2 hRel2 _ _ hPx hPm hDx hDm hS
      by_cases hc2 : sw = 2
      · refine lv_tableIn (tgt := 168) (off := 136) hx hb dL_law_32 (by rw [hc2]; decide) (by rw [hc2]; decide) (by rw [hc2]; rfl) (by decide) ?_
        refine lv_aload_n hx hb dL_law_168 rfl (lv_at hl 1 rfl) ?_
        obtain ⟨r, e1, e2, hRel2⟩ := h_fault i hi fx gx ax fm gm am  hRel
        refine kS_i (va_runV (As := []) (rest := []) ⟨hx, hb, hml, hown, hts⟩ (c_X11_fault l s.heap.size D adx ckx fx gx ax  r e1) (cwV 0 hts gL_law_X11_fault rfl rfl rfl ⟨rfl, pX11_fault⟩ ⟨Nat.le_of_ble_eq_true rfl, Nat.le_of_ble_eq_true rfl⟩) (kR.preV (va_recv hKx hPx (ci := 11) (q0 := 0) rfl rfl) hPx (hEx.kept hS hid)) rfl rfl hl.1 rfl (lv_room (Nat.le_of_ble_eq_true rfl)) dL_law_169 ⟨Nat.le_of_ble_eq_true rfl, Nat.le_of_ble_eq_true rfl⟩) ?_
        refine lv_aload_n hx hb dL_law_172 rfl (lv_at hl 2 rfl) ?_
        refine kS_i (va_runV (As := []) (rest := [.int r]) ⟨hx, hb, hml, hown, hts⟩ (c_X12_fault l s.heap.size D adm ckm fm gm am  r e2) (cwV 0 hts gL_law_X12_fault rfl rfl rfl ⟨rfl, pX12_fault⟩ ⟨Nat.le_of_ble_eq_true rfl, Nat.le_of_ble_eq_true rfl⟩) (kR.preV (va_recv hKm hPm (ci := 12) (q0 := 0) rfl rfl) hPm (hEm.kept hS hid)) rfl rfl hl.1 rfl (lv_room (Nat.le_of_ble_eq_true rfl)) dL_law_173 ⟨Nat.le_of_ble_eq_true rfl, Nat.le_of_ble_eq_true rfl⟩) ?_
        refine lv_icmp_eq (tgt := 728) hx hb dL_law_176 (by decide) (fun _ => ?_) (fun z => absurd rfl z)
        exact next fx gx ax fm gm am hRel2 _ _ hPx hPm hDx hDm hS
      by_cases hc3 : sw = 3
      · refine lv_tableIn (tgt := 181) (off := 149) hx hb dL_law_32 (by rw [hc3]; decide) (by rw [hc3]; decide) (by rw [hc3]; rfl) (by decide) ?_
        refine lv_aload_n hx hb dL_law_181 rfl (lv_at hl 1 rfl) ?_
        obtain ⟨r, ⟨fx2, gx2, ax2⟩, ⟨fm2, gm2, am2⟩, e1, e2, hRel2⟩ := h_town i hi fx gx ax fm gm am  hRel
        refine kS_w2 (va_runV (As := []) (rest := []) ⟨hx, hb, hml, hown, hts⟩ (c_X11_town l s.heap.size D adx ckx fx gx ax  (r, fx2, gx2, ax2) e1) (cwV 0 hts gL_law_X11_town rfl rfl rfl ⟨rfl, pX11_town⟩ ⟨Nat.le_of_ble_eq_true rfl, Nat.le_of_ble_eq_true rfl⟩) (kW.preV (va_recv hKx hPx (ci := 11) (q0 := 0) rfl rfl) hPx (hEx.kept hS hid) hDx hid) rfl rfl hl.1 rfl (lv_room (Nat.le_of_ble_eq_true rfl)) dL_law_182 ⟨Nat.le_of_ble_eq_true rfl, Nat.le_of_ble_eq_true rfl⟩) hDx hPm (kApart rfl rfl hap) hS rfl (fun H locs hPx hPm hDx hS => ?_)
        refine lv_aload_n hx hb dL_law_185 rfl (lv_at hl 2 rfl) ?_
        refine kS_w2 (va_runV (As := []) (rest := [.int r]) ⟨hx, hb, hml, hown, hts⟩ (c_X12_town l s.heap.size D adm ckm fm gm am  (r, fm2, gm2, am2) e2) (cwV 0 hts gL_law_X12_town rfl rfl rfl ⟨rfl, pX12_town⟩ ⟨Nat.le_of_ble_eq_true rfl, Nat.le_of_ble_eq_true rfl⟩) (kW.preV (va_recv hKm hPm (ci := 12) (q0 := 0) rfl rfl) hPm (hEm.kept hS hid) hDm hid) rfl rfl hl.1 rfl (lv_room (Nat.le_of_ble_eq_true rfl)) dL_law_186 ⟨Nat.le_of_ble_eq_true rfl, Nat.le_of_ble_eq_true rfl⟩) hDm hPx (kApart' rfl rfl hap) hS rfl (fun H locs hPm hPx hDm hS => ?_)
        refine lv_icmp_eq (tgt := 728) hx hb dL_law_189 (by decide) (fun _ => ?_) (fun z => absurd rfl z)
        exact next fx2 gx2 ax2 fm2 gm2 am2 hRel2 _ _ hPx hPm hDx hDm hS
      by_cases hc4 : sw = 4
      · refine lv_tableIn (tgt := 194) (off := 162) hx hb dL_law_32 (by rw [hc4]; decide) (by rw [hc4]; decide) (by rw [hc4]; rfl) (by decide) ?_
        refine lv_aload_n hx hb dL_law_194 rfl (lv_at hl 1 rfl) ?_
        refine lv_aload_n hx hb dL_law_195 rfl (lv_at hl 0 rfl) ?_
        refine lv_iload_n hx hb dL_law_196 rfl (lv_at hl 3 rfl) ?_
        refine lv_iconst (v := 1) hx hb dL_law_197 (by decide) ?_
        refine lv_iadd hx hb dL_law_198 ?_
        refine va_sld hx hb hX hbl hbA hS hv1 dL_law_199 ?_
        refine lv_aload_n hx hb dL_law_200 rfl (lv_at hl 0 rfl) ?_
        refine lv_iload_n hx hb dL_law_201 rfl (lv_at hl 3 rfl) ?_
        refine lv_iconst (v := 2) hx hb dL_law_202 (by decide) ?_
        refine lv_iadd hx hb dL_law_203 ?_
        refine va_sld hx hb hX hbl hbA hS hv2 dL_law_204 ?_
        obtain ⟨r, e1, e2, hRel2⟩ := h_about i hi fx gx ax fm gm am (xs (x3 + 1).toNatClampNeg) (xs (x3 + 2).toNatClampNeg) hRel
        refine kS_i (va_runV (As := [.int (xs (x3 + 1).toNatClampNeg), .int (xs (x3 + 2).toNatClampNeg)]) (rest := []) ⟨hx, hb, hml, hown, hts⟩ (c_X11_about l s.heap.size D adx ckx fx gx ax (xs (x3 + 1).toNatClampNeg) (xs (x3 + 2).toNatClampNeg) r e1) (cwV 2 hts gL_law_X11_about rfl rfl rfl ⟨rfl, pX11_about⟩ ⟨Nat.le_of_ble_eq_true rfl, Nat.le_of_ble_eq_true rfl⟩) (kR.preV (va_recv hKx hPx (ci := 11) (q0 := 0) rfl rfl) hPx (hEx.kept hS hid)) rfl rfl hl.1 rfl (lv_room (Nat.le_of_ble_eq_true rfl)) dL_law_205 ⟨Nat.le_of_ble_eq_true rfl, Nat.le_of_ble_eq_true rfl⟩) ?_
        refine lv_aload_n hx hb dL_law_208 rfl (lv_at hl 2 rfl) ?_
        refine lv_aload_n hx hb dL_law_209 rfl (lv_at hl 0 rfl) ?_
        refine lv_iload_n hx hb dL_law_210 rfl (lv_at hl 3 rfl) ?_
        refine lv_iconst (v := 1) hx hb dL_law_211 (by decide) ?_
        refine lv_iadd hx hb dL_law_212 ?_
        refine va_sld hx hb hX hbl hbA hS hv1 dL_law_213 ?_
        refine lv_aload_n hx hb dL_law_214 rfl (lv_at hl 0 rfl) ?_
        refine lv_iload_n hx hb dL_law_215 rfl (lv_at hl 3 rfl) ?_
        refine lv_iconst (v := 2) hx hb dL_law_216 (by decide) ?_
        refine lv_iadd hx hb dL_law_217 ?_
        refine va_sld hx hb hX hbl hbA hS hv2 dL_law_218 ?_
        refine kS_i (va_runV (As := [.int (xs (x3 + 1).toNatClampNeg), .int (xs (x3 + 2).toNatClampNeg)]) (rest := [.int r]) ⟨hx, hb, hml, hown, hts⟩ (c_X12_about l s.heap.size D adm ckm fm gm am (xs (x3 + 1).toNatClampNeg) (xs (x3 + 2).toNatClampNeg) r e2) (cwV 2 hts gL_law_X12_about rfl rfl rfl ⟨rfl, pX12_about⟩ ⟨Nat.le_of_ble_eq_true rfl, Nat.le_of_ble_eq_true rfl⟩) (kR.preV (va_recv hKm hPm (ci := 12) (q0 := 0) rfl rfl) hPm (hEm.kept hS hid)) rfl rfl hl.1 rfl (lv_room (Nat.le_of_ble_eq_true rfl)) dL_law_219 ⟨Nat.le_of_ble_eq_true rfl, Nat.le_of_ble_eq_true rfl⟩) ?_
        refine lv_icmp_eq (tgt := 728) hx hb dL_law_222 (by decide) (fun _ => ?_) (fun z => absurd rfl z)
        exact next fx gx ax fm gm am hRel2 _ _ hPx hPm hDx hDm hS
      by_cases hc5 : sw = 5
      · refine lv_tableIn (tgt := 227) (off := 195) hx hb dL_law_32 (by rw [hc5]; decide) (by rw [hc5]; decide) (by rw [hc5]; rfl) (by decide) ?_
        refine lv_aload_n hx hb dL_law_227 rfl (lv_at hl 1 rfl) ?_
        refine lv_aload_n hx hb dL_law_228 rfl (lv_at hl 0 rfl) ?_
        refine lv_iload_n hx hb dL_law_229 rfl (lv_at hl 3 rfl) ?_
        refine lv_iconst (v := 1) hx hb dL_law_230 (by decide) ?_
        refine lv_iadd hx hb dL_law_231 ?_
        refine va_sld hx hb hX hbl hbA hS hv1 dL_law_232 ?_
        refine lv_aload_n hx hb dL_law_233 rfl (lv_at hl 0 rfl) ?_
        refine lv_iload_n hx hb dL_law_234 rfl (lv_at hl 3 rfl) ?_
        refine lv_iconst (v := 2) hx hb dL_law_235 (by decide) ?_
        refine lv_iadd hx hb dL_law_236 ?_
        refine va_sld hx hb hX hbl hbA hS hv2 dL_law_237 ?_
        obtain ⟨r, e1, e2, hRel2⟩ := h_as i hi fx gx ax fm gm am (xs (x3 + 1).toNatClampNeg) (xs (x3 + 2).toNatClampNeg) hRel
        refine kS_i (va_runV (As := [.int (xs (x3 + 1).toNatClampNeg), .int (xs (x3 + 2).toNatClampNeg)]) (rest := []) ⟨hx, hb, hml, hown, hts⟩ (c_X11_as l s.heap.size D adx ckx fx gx ax (xs (x3 + 1).toNatClampNeg) (xs (x3 + 2).toNatClampNeg)) (cwV 2 hts gL_law_X11_as rfl rfl rfl ⟨rfl, pX11_as⟩ ⟨Nat.le_of_ble_eq_true rfl, Nat.le_of_ble_eq_true rfl⟩) (kR.preV (va_recv hKx hPx (ci := 11) (q0 := 0) rfl rfl) hPx (hEx.kept hS hid)) rfl rfl hl.1 rfl (lv_room (Nat.le_of_ble_eq_true rfl)) dL_law_238 ⟨Nat.le_of_ble_eq_true rfl, Nat.le_of_ble_eq_true rfl⟩) ?_
        rw [e1]
        refine lv_aload_n hx hb dL_law_241 rfl (lv_at hl 2 rfl) ?_
        refine lv_aload_n hx hb dL_law_242 rfl (lv_at hl 0 rfl) ?_
        refine lv_iload_n hx hb dL_law_243 rfl (lv_at hl 3 rfl) ?_
        refine lv_iconst (v := 1) hx hb dL_law_244 (by decide) ?_
        refine lv_iadd hx hb dL_law_245 ?_
        refine va_sld hx hb hX hbl hbA hS hv1 dL_law_246 ?_
        refine lv_aload_n hx hb dL_law_247 rfl (lv_at hl 0 rfl) ?_
        refine lv_iload_n hx hb dL_law_248 rfl (lv_at hl 3 rfl) ?_
        refine lv_iconst (v := 2) hx hb dL_law_249 (by decide) ?_
        refine lv_iadd hx hb dL_law_250 ?_
        refine va_sld hx hb hX hbl hbA hS hv2 dL_law_251 ?_
        refine kS_i (va_runV (As := [.int (xs (x3 + 1).toNatClampNeg), .int (xs (x3 + 2).toNatClampNeg)]) (rest := [.int r]) ⟨hx, hb, hml, hown, hts⟩ (c_X12_as l s.heap.size D adm ckm fm gm am (xs (x3 + 1).toNatClampNeg) (xs (x3 + 2).toNatClampNeg) r e2) (cwV 2 hts gL_law_X12_as rfl rfl rfl ⟨rfl, pX12_as⟩ ⟨Nat.le_of_ble_eq_true rfl, Nat.le_of_ble_eq_true rfl⟩) (kR.preV (va_recv hKm hPm (ci := 12) (q0 := 0) rfl rfl) hPm (hEm.kept hS hid)) rfl rfl hl.1 rfl (lv_room (Nat.le_of_ble_eq_true rfl)) dL_law_252 ⟨Nat.le_of_ble_eq_true rfl, Nat.le_of_ble_eq_true rfl⟩) ?_
        refine lv_icmp_eq (tgt := 728) hx hb dL_law_255 (by decide) (fun _ => ?_) (fun z => absurd rfl z)
        exact next fx gx ax fm gm am hRel2 _ _ hPx hPm hDx hDm hS
      by_cases hc6 : sw = 6
      · refine lv_tableIn (tgt := 260) (off := 228) hx hb dL_law_32 (by rw [hc6]; decide) (by rw [hc6]; decide) (by rw [hc6]; rfl) (by decide) ?_
        refine lv_aload_n hx hb dL_law_260 rfl (lv_at hl 1 rfl) ?_
        refine lv_aload_n hx hb dL_law_261 rfl (lv_at hl 0 rfl) ?_
        refine lv_iload_n hx hb dL_law_262 rfl (lv_at hl 3 rfl) ?_
        refine lv_iconst (v := 1) hx hb dL_law_263 (by decide) ?_
        refine lv_iadd hx hb dL_law_264 ?_
        refine va_sld hx hb hX hbl hbA hS hv1 dL_law_265 ?_
        refine lv_aload_n hx hb dL_law_266 rfl (lv_at hl 0 rfl) ?_
        refine lv_iload_n hx hb dL_law_267 rfl (lv_at hl 3 rfl) ?_
        refine lv_iconst (v := 2) hx hb dL_law_268 (by decide) ?_
        refine lv_iadd hx hb dL_law_269 ?_
        refine va_sld hx hb hX hbl hbA hS hv2 dL_law_270 ?_
        obtain ⟨r, ⟨fx2, gx2, ax2⟩, ⟨fm2, gm2, am2⟩, e1, e2, hRel2⟩ := h_go i hi fx gx ax fm gm am (xs (x3 + 1).toNatClampNeg) (xs (x3 + 2).toNatClampNeg) hRel
        refine kS_w2 (va_runV (As := [.int (xs (x3 + 1).toNatClampNeg), .int (xs (x3 + 2).toNatClampNeg)]) (rest := []) ⟨hx, hb, hml, hown, hts⟩ (c_X11_go l s.heap.size D adx ckx fx gx ax (xs (x3 + 1).toNatClampNeg) (xs (x3 + 2).toNatClampNeg) (r, fx2, gx2, ax2) e1) (cwV 2 hts gL_law_X11_go rfl rfl rfl ⟨rfl, pX11_go⟩ ⟨Nat.le_of_ble_eq_true rfl, Nat.le_of_ble_eq_true rfl⟩) (kW.preV (va_recv hKx hPx (ci := 11) (q0 := 0) rfl rfl) hPx (hEx.kept hS hid) hDx hid) rfl rfl hl.1 rfl (lv_room (Nat.le_of_ble_eq_true rfl)) dL_law_271 ⟨Nat.le_of_ble_eq_true rfl, Nat.le_of_ble_eq_true rfl⟩) hDx hPm (kApart rfl rfl hap) hS rfl (fun H locs hPx hPm hDx hS => ?_)
        refine lv_aload_n hx hb dL_law_274 rfl (lv_at hl 2 rfl) ?_
        refine lv_aload_n hx hb dL_law_275 rfl (lv_at hl 0 rfl) ?_
        refine lv_iload_n hx hb dL_law_276 rfl (lv_at hl 3 rfl) ?_
        refine lv_iconst (v := 1) hx hb dL_law_277 (by decide) ?_
        refine lv_iadd hx hb dL_law_278 ?_
        refine va_sld hx hb hX hbl hbA hS hv1 dL_law_279 ?_
        refine lv_aload_n hx hb dL_law_280 rfl (lv_at hl 0 rfl) ?_
        refine lv_iload_n hx hb dL_law_281 rfl (lv_at hl 3 rfl) ?_
        refine lv_iconst (v := 2) hx hb dL_law_282 (by decide) ?_
        refine lv_iadd hx hb dL_law_283 ?_
        refine va_sld hx hb hX hbl hbA hS hv2 dL_law_284 ?_
        refine kS_w2 (va_runV (As := [.int (xs (x3 + 1).toNatClampNeg), .int (xs (x3 + 2).toNatClampNeg)]) (rest := [.int r]) ⟨hx, hb, hml, hown, hts⟩ (c_X12_go l s.heap.size D adm ckm fm gm am (xs (x3 + 1).toNatClampNeg) (xs (x3 + 2).toNatClampNeg) (r, fm2, gm2, am2) e2) (cwV 2 hts gL_law_X12_go rfl rfl rfl ⟨rfl, pX12_go⟩ ⟨Nat.le_of_ble_eq_true rfl, Nat.le_of_ble_eq_true rfl⟩) (kW.preV (va_recv hKm hPm (ci := 12) (q0 := 0) rfl rfl) hPm (hEm.kept hS hid) hDm hid) rfl rfl hl.1 rfl (lv_room (Nat.le_of_ble_eq_true rfl)) dL_law_285 ⟨Nat.le_of_ble_eq_true rfl, Nat.le_of_ble_eq_true rfl⟩) hDm hPx (kApart' rfl rfl hap) hS rfl (fun H locs hPm hPx hDm hS => ?_)
        refine lv_icmp_eq (tgt := 728) hx hb dL_law_288 (by decide) (fun _ => ?_) (fun z => absurd rfl z)
        exact next fx2 gx2 ax2 fm2 gm2 am2 hRel2 _ _ hPx hPm hDx hDm hS
      by_cases hc7 : sw = 7
      · refine lv_tableIn (tgt := 293) (off := 261) hx hb dL_law_32 (by rw [hc7]; decide) (by rw [hc7]; decide) (by rw [hc7]; rfl) (by decide) ?_
        refine lv_aload_n hx hb dL_law_293 rfl (lv_at hl 1 rfl) ?_
        refine lv_aload_n hx hb dL_law_294 rfl (lv_at hl 0 rfl) ?_
        refine lv_iload_n hx hb dL_law_295 rfl (lv_at hl 3 rfl) ?_
        refine lv_iconst (v := 1) hx hb dL_law_296 (by decide) ?_
        refine lv_iadd hx hb dL_law_297 ?_
        refine va_sld hx hb hX hbl hbA hS hv1 dL_law_298 ?_
        refine lv_aload_n hx hb dL_law_299 rfl (lv_at hl 0 rfl) ?_
        refine lv_iload_n hx hb dL_law_300 rfl (lv_at hl 3 rfl) ?_
        refine lv_iconst (v := 2) hx hb dL_law_301 (by decide) ?_
        refine lv_iadd hx hb dL_law_302 ?_
        refine va_sld hx hb hX hbl hbA hS hv2 dL_law_303 ?_
        refine lv_aload_n hx hb dL_law_304 rfl (lv_at hl 0 rfl) ?_
        refine lv_iload_n hx hb dL_law_305 rfl (lv_at hl 3 rfl) ?_
        refine lv_iconst (v := 3) hx hb dL_law_306 (by decide) ?_
        refine lv_iadd hx hb dL_law_307 ?_
        refine va_sld hx hb hX hbl hbA hS hv3 dL_law_308 ?_
        obtain ⟨r, ⟨fx2, gx2, ax2⟩, ⟨fm2, gm2, am2⟩, e1, e2, hRel2⟩ := h_sell i hi fx gx ax fm gm am (xs (x3 + 1).toNatClampNeg) (xs (x3 + 2).toNatClampNeg) (xs (x3 + 3).toNatClampNeg) hRel
        refine kS_w2 (va_runV (As := [.int (xs (x3 + 1).toNatClampNeg), .int (xs (x3 + 2).toNatClampNeg), .int (xs (x3 + 3).toNatClampNeg)]) (rest := []) ⟨hx, hb, hml, hown, hts⟩ (c_X11_sell l s.heap.size D adx ckx fx gx ax (xs (x3 + 1).toNatClampNeg) (xs (x3 + 2).toNatClampNeg) (xs (x3 + 3).toNatClampNeg) (r, fx2, gx2, ax2) e1) (cwV 3 hts gL_law_X11_sell rfl rfl rfl ⟨rfl, pX11_sell⟩ ⟨Nat.le_of_ble_eq_true rfl, Nat.le_of_ble_eq_true rfl⟩) (kW.preV (va_recv hKx hPx (ci := 11) (q0 := 0) rfl rfl) hPx (hEx.kept hS hid) hDx hid) rfl rfl hl.1 rfl (lv_room (Nat.le_of_ble_eq_true rfl)) dL_law_309 ⟨Nat.le_of_ble_eq_true rfl, Nat.le_of_ble_eq_true rfl⟩) hDx hPm (kApart rfl rfl hap) hS rfl (fun H locs hPx hPm hDx hS => ?_)
        refine lv_aload_n hx hb dL_law_312 rfl (lv_at hl 2 rfl) ?_
        refine lv_aload_n hx hb dL_law_313 rfl (lv_at hl 0 rfl) ?_
        refine lv_iload_n hx hb dL_law_314 rfl (lv_at hl 3 rfl) ?_
        refine lv_iconst (v := 1) hx hb dL_law_315 (by decide) ?_
        refine lv_iadd hx hb dL_law_316 ?_
        refine va_sld hx hb hX hbl hbA hS hv1 dL_law_317 ?_
        refine lv_aload_n hx hb dL_law_318 rfl (lv_at hl 0 rfl) ?_
        refine lv_iload_n hx hb dL_law_319 rfl (lv_at hl 3 rfl) ?_
        refine lv_iconst (v := 2) hx hb dL_law_320 (by decide) ?_
        refine lv_iadd hx hb dL_law_321 ?_
        refine va_sld hx hb hX hbl hbA hS hv2 dL_law_322 ?_
        refine lv_aload_n hx hb dL_law_323 rfl (lv_at hl 0 rfl) ?_
        refine lv_iload_n hx hb dL_law_324 rfl (lv_at hl 3 rfl) ?_
        refine lv_iconst (v := 3) hx hb dL_law_325 (by decide) ?_
        refine lv_iadd hx hb dL_law_326 ?_
        refine va_sld hx hb hX hbl hbA hS hv3 dL_law_327 ?_
        refine kS_w2 (va_runV (As := [.int (xs (x3 + 1).toNatClampNeg), .int (xs (x3 + 2).toNatClampNeg), .int (xs (x3 + 3).toNatClampNeg)]) (rest := [.int r]) ⟨hx, hb, hml, hown, hts⟩ (c_X12_sell l s.heap.size D adm ckm fm gm am (xs (x3 + 1).toNatClampNeg) (xs (x3 + 2).toNatClampNeg) (xs (x3 + 3).toNatClampNeg) (r, fm2, gm2, am2) e2) (cwV 3 hts gL_law_X12_sell rfl rfl rfl ⟨rfl, pX12_sell⟩ ⟨Nat.le_of_ble_eq_true rfl, Nat.le_of_ble_eq_true rfl⟩) (kW.preV (va_recv hKm hPm (ci := 12) (q0 := 0) rfl rfl) hPm (hEm.kept hS hid) hDm hid) rfl rfl hl.1 rfl (lv_room (Nat.le_of_ble_eq_true rfl)) dL_law_328 ⟨Nat.le_of_ble_eq_true rfl, Nat.le_of_ble_eq_true rfl⟩) hDm hPx (kApart' rfl rfl hap) hS rfl (fun H locs hPm hPx hDm hS => ?_)
        refine lv_icmp_eq (tgt := 728) hx hb dL_law_331 (by decide) (fun _ => ?_) (fun z => absurd rfl z)
        exact next fx2 gx2 ax2 fm2 gm2 am2 hRel2 _ _ hPx hPm hDx hDm hS
      by_cases hc8 : sw = 8
      · refine lv_tableIn (tgt := 336) (off := 304) hx hb dL_law_32 (by rw [hc8]; decide) (by rw [hc8]; decide) (by rw [hc8]; rfl) (by decide) ?_
        refine lv_aload_n hx hb dL_law_336 rfl (lv_at hl 1 rfl) ?_
        refine lv_aload_n hx hb dL_law_337 rfl (lv_at hl 0 rfl) ?_
        refine lv_iload_n hx hb dL_law_338 rfl (lv_at hl 3 rfl) ?_
        refine lv_iconst (v := 1) hx hb dL_law_339 (by decide) ?_
        refine lv_iadd hx hb dL_law_340 ?_
        refine va_sld hx hb hX hbl hbA hS hv1 dL_law_341 ?_
        refine lv_aload_n hx hb dL_law_342 rfl (lv_at hl 0 rfl) ?_
        refine lv_iload_n hx hb dL_law_343 rfl (lv_at hl 3 rfl) ?_
        refine lv_iconst (v := 2) hx hb dL_law_344 (by decide) ?_
        refine lv_iadd hx hb dL_law_345 ?_
        refine va_sld hx hb hX hbl hbA hS hv2 dL_law_346 ?_
        refine lv_aload_n hx hb dL_law_347 rfl (lv_at hl 0 rfl) ?_
        refine lv_iload_n hx hb dL_law_348 rfl (lv_at hl 3 rfl) ?_
        refine lv_iconst (v := 3) hx hb dL_law_349 (by decide) ?_
        refine lv_iadd hx hb dL_law_350 ?_
        refine va_sld hx hb hX hbl hbA hS hv3 dL_law_351 ?_
        refine lv_if_eq (tgt := 359) hx hb dL_law_352 (by decide) (fun hb0 => ?_) (fun hb0 => ?_)
        · refine lv_iconst (v := 0) hx hb dL_law_359 (by decide) ?_
          obtain ⟨r, ⟨fx2, gx2, ax2⟩, ⟨fm2, gm2, am2⟩, e1, e2, hRel2⟩ := h_quarrel i hi fx gx ax fm gm am (xs (x3 + 1).toNatClampNeg) (xs (x3 + 2).toNatClampNeg) 0 hRel (Or.inl rfl)
          refine kS_w2 (va_runV (As := [.int (xs (x3 + 1).toNatClampNeg), .int (xs (x3 + 2).toNatClampNeg), .int 0]) (rest := []) ⟨hx, hb, hml, hown, hts⟩ (c_X11_quarrel l s.heap.size D adx ckx fx gx ax (xs (x3 + 1).toNatClampNeg) (xs (x3 + 2).toNatClampNeg) 0 (r, fx2, gx2, ax2) e1) (cwV 3 hts gL_law_X11_quarrel rfl rfl rfl ⟨rfl, pX11_quarrel⟩ ⟨Nat.le_of_ble_eq_true rfl, Nat.le_of_ble_eq_true rfl⟩) (kW.preV (va_recv hKx hPx (ci := 11) (q0 := 0) rfl rfl) hPx (hEx.kept hS hid) hDx hid) rfl rfl hl.1 rfl (lv_room (Nat.le_of_ble_eq_true rfl)) dL_law_360 ⟨Nat.le_of_ble_eq_true rfl, Nat.le_of_ble_eq_true rfl⟩) hDx hPm (kApart rfl rfl hap) hS rfl (fun H locs hPx hPm hDx hS => ?_)
          refine lv_aload_n hx hb dL_law_363 rfl (lv_at hl 2 rfl) ?_
          refine lv_aload_n hx hb dL_law_364 rfl (lv_at hl 0 rfl) ?_
          refine lv_iload_n hx hb dL_law_365 rfl (lv_at hl 3 rfl) ?_
          refine lv_iconst (v := 1) hx hb dL_law_366 (by decide) ?_
          refine lv_iadd hx hb dL_law_367 ?_
          refine va_sld hx hb hX hbl hbA hS hv1 dL_law_368 ?_
          refine lv_aload_n hx hb dL_law_369 rfl (lv_at hl 0 rfl) ?_
          refine lv_iload_n hx hb dL_law_370 rfl (lv_at hl 3 rfl) ?_
          refine lv_iconst (v := 2) hx hb dL_law_371 (by decide) ?_
          refine lv_iadd hx hb dL_law_372 ?_
          refine va_sld hx hb hX hbl hbA hS hv2 dL_law_373 ?_
          refine lv_aload_n hx hb dL_law_374 rfl (lv_at hl 0 rfl) ?_
          refine lv_iload_n hx hb dL_law_375 rfl (lv_at hl 3 rfl) ?_
          refine lv_iconst (v := 3) hx hb dL_law_376 (by decide) ?_
          refine lv_iadd hx hb dL_law_377 ?_
          refine va_sld hx hb hX hbl hbA hS hv3 dL_law_378 ?_
          refine lv_if_eq (tgt := 386) hx hb dL_law_379 (by decide) (fun hb1 => ?_) (fun hb1 => absurd hb0 hb1)
          refine lv_iconst (v := 0) hx hb dL_law_386 (by decide) ?_
          refine kS_w2 (va_runV (As := [.int (xs (x3 + 1).toNatClampNeg), .int (xs (x3 + 2).toNatClampNeg), .int 0]) (rest := [.int r]) ⟨hx, hb, hml, hown, hts⟩ (c_X12_quarrel l s.heap.size D adm ckm fm gm am (xs (x3 + 1).toNatClampNeg) (xs (x3 + 2).toNatClampNeg) 0 (r, fm2, gm2, am2) e2) (cwV 3 hts gL_law_X12_quarrel rfl rfl rfl ⟨rfl, pX12_quarrel⟩ ⟨Nat.le_of_ble_eq_true rfl, Nat.le_of_ble_eq_true rfl⟩) (kW.preV (va_recv hKm hPm (ci := 12) (q0 := 0) rfl rfl) hPm (hEm.kept hS hid) hDm hid) rfl rfl hl.1 rfl (lv_room (Nat.le_of_ble_eq_true rfl)) dL_law_387 ⟨Nat.le_of_ble_eq_true rfl, Nat.le_of_ble_eq_true rfl⟩) hDm hPx (kApart' rfl rfl hap) hS rfl (fun H locs hPm hPx hDm hS => ?_)
          refine lv_icmp_eq (tgt := 728) hx hb dL_law_390 (by decide) (fun _ => ?_) (fun z => absurd rfl z)
          exact next fx2 gx2 ax2 fm2 gm2 am2 hRel2 _ _ hPx hPm hDx hDm hS
        · refine lv_iconst (v := 1) hx hb dL_law_355 (by decide) ?_
          refine lv_goto (tgt := 360) hx hb dL_law_356 (by decide) ?_
          obtain ⟨r, ⟨fx2, gx2, ax2⟩, ⟨fm2, gm2, am2⟩, e1, e2, hRel2⟩ := h_quarrel i hi fx gx ax fm gm am (xs (x3 + 1).toNatClampNeg) (xs (x3 + 2).toNatClampNeg) 1 hRel (Or.inr rfl)
          refine kS_w2 (va_runV (As := [.int (xs (x3 + 1).toNatClampNeg), .int (xs (x3 + 2).toNatClampNeg), .int 1]) (rest := []) ⟨hx, hb, hml, hown, hts⟩ (c_X11_quarrel l s.heap.size D adx ckx fx gx ax (xs (x3 + 1).toNatClampNeg) (xs (x3 + 2).toNatClampNeg) 1 (r, fx2, gx2, ax2) e1) (cwV 3 hts gL_law_X11_quarrel rfl rfl rfl ⟨rfl, pX11_quarrel⟩ ⟨Nat.le_of_ble_eq_true rfl, Nat.le_of_ble_eq_true rfl⟩) (kW.preV (va_recv hKx hPx (ci := 11) (q0 := 0) rfl rfl) hPx (hEx.kept hS hid) hDx hid) rfl rfl hl.1 rfl (lv_room (Nat.le_of_ble_eq_true rfl)) dL_law_360 ⟨Nat.le_of_ble_eq_true rfl, Nat.le_of_ble_eq_true rfl⟩) hDx hPm (kApart rfl rfl hap) hS rfl (fun H locs hPx hPm hDx hS => ?_)
          refine lv_aload_n hx hb dL_law_363 rfl (lv_at hl 2 rfl) ?_
          refine lv_aload_n hx hb dL_law_364 rfl (lv_at hl 0 rfl) ?_
          refine lv_iload_n hx hb dL_law_365 rfl (lv_at hl 3 rfl) ?_
          refine lv_iconst (v := 1) hx hb dL_law_366 (by decide) ?_
          refine lv_iadd hx hb dL_law_367 ?_
          refine va_sld hx hb hX hbl hbA hS hv1 dL_law_368 ?_
          refine lv_aload_n hx hb dL_law_369 rfl (lv_at hl 0 rfl) ?_
          refine lv_iload_n hx hb dL_law_370 rfl (lv_at hl 3 rfl) ?_
          refine lv_iconst (v := 2) hx hb dL_law_371 (by decide) ?_
          refine lv_iadd hx hb dL_law_372 ?_
          refine va_sld hx hb hX hbl hbA hS hv2 dL_law_373 ?_
          refine lv_aload_n hx hb dL_law_374 rfl (lv_at hl 0 rfl) ?_
          refine lv_iload_n hx hb dL_law_375 rfl (lv_at hl 3 rfl) ?_
          refine lv_iconst (v := 3) hx hb dL_law_376 (by decide) ?_
          refine lv_iadd hx hb dL_law_377 ?_
          refine va_sld hx hb hX hbl hbA hS hv3 dL_law_378 ?_
          refine lv_if_eq (tgt := 386) hx hb dL_law_379 (by decide) (fun hb1 => absurd hb1 hb0) (fun hb1 => ?_)
          refine lv_iconst (v := 1) hx hb dL_law_382 (by decide) ?_
          refine lv_goto (tgt := 387) hx hb dL_law_383 (by decide) ?_
          refine kS_w2 (va_runV (As := [.int (xs (x3 + 1).toNatClampNeg), .int (xs (x3 + 2).toNatClampNeg), .int 1]) (rest := [.int r]) ⟨hx, hb, hml, hown, hts⟩ (c_X12_quarrel l s.heap.size D adm ckm fm gm am (xs (x3 + 1).toNatClampNeg) (xs (x3 + 2).toNatClampNeg) 1 (r, fm2, gm2, am2) e2) (cwV 3 hts gL_law_X12_quarrel rfl rfl rfl ⟨rfl, pX12_quarrel⟩ ⟨Nat.le_of_ble_eq_true rfl, Nat.le_of_ble_eq_true rfl⟩) (kW.preV (va_recv hKm hPm (ci := 12) (q0 := 0) rfl rfl) hPm (hEm.kept hS hid) hDm hid) rfl rfl hl.1 rfl (lv_room (Nat.le_of_ble_eq_true rfl)) dL_law_387 ⟨Nat.le_of_ble_eq_true rfl, Nat.le_of_ble_eq_true rfl⟩) hDm hPx (kApart' rfl rfl hap) hS rfl (fun H locs hPm hPx hDm hS => ?_)
          refine lv_icmp_eq (tgt := 728) hx hb dL_law_390 (by decide) (fun _ => ?_) (fun z => absurd rfl z)
          exact next fx2 gx2 ax2 fm2 gm2 am2 hRel2 _ _ hPx hPm hDx hDm hS
      by_cases hc9 : sw = 9
      · refine lv_tableIn (tgt := 395) (off := 363) hx hb dL_law_32 (by rw [hc9]; decide) (by rw [hc9]; decide) (by rw [hc9]; rfl) (by decide) ?_
        refine lv_aload_n hx hb dL_law_395 rfl (lv_at hl 1 rfl) ?_
        refine lv_aload_n hx hb dL_law_396 rfl (lv_at hl 0 rfl) ?_
        refine lv_iload_n hx hb dL_law_397 rfl (lv_at hl 3 rfl) ?_
        refine lv_iconst (v := 1) hx hb dL_law_398 (by decide) ?_
        refine lv_iadd hx hb dL_law_399 ?_
        refine va_sld hx hb hX hbl hbA hS hv1 dL_law_400 ?_
        refine lv_aload_n hx hb dL_law_401 rfl (lv_at hl 0 rfl) ?_
        refine lv_iload_n hx hb dL_law_402 rfl (lv_at hl 3 rfl) ?_
        refine lv_iconst (v := 2) hx hb dL_law_403 (by decide) ?_
        refine lv_iadd hx hb dL_law_404 ?_
        refine va_sld hx hb hX hbl hbA hS hv2 dL_law_405 ?_
        obtain ⟨r, e1, e2, hRel2⟩ := h_written i hi fx gx ax fm gm am (xs (x3 + 1).toNatClampNeg) (xs (x3 + 2).toNatClampNeg) hRel
        refine kS_i (va_runV (As := [.int (xs (x3 + 1).toNatClampNeg), .int (xs (x3 + 2).toNatClampNeg)]) (rest := []) ⟨hx, hb, hml, hown, hts⟩ (c_X11_written l s.heap.size D adx ckx fx gx ax (xs (x3 + 1).toNatClampNeg) (xs (x3 + 2).toNatClampNeg)) (cwV 2 hts gL_law_X11_written rfl rfl rfl ⟨rfl, pX11_written⟩ ⟨Nat.le_of_ble_eq_true rfl, Nat.le_of_ble_eq_true rfl⟩) (kR.preV (va_recv hKx hPx (ci := 11) (q0 := 0) rfl rfl) hPx (hEx.kept hS hid)) rfl rfl hl.1 rfl (lv_room (Nat.le_of_ble_eq_true rfl)) dL_law_406 ⟨Nat.le_of_ble_eq_true rfl, Nat.le_of_ble_eq_true rfl⟩) ?_
        rw [e1]
        refine lv_aload_n hx hb dL_law_409 rfl (lv_at hl 2 rfl) ?_
        refine lv_aload_n hx hb dL_law_410 rfl (lv_at hl 0 rfl) ?_
        refine lv_iload_n hx hb dL_law_411 rfl (lv_at hl 3 rfl) ?_
        refine lv_iconst (v := 1) hx hb dL_law_412 (by decide) ?_
        refine lv_iadd hx hb dL_law_413 ?_
        refine va_sld hx hb hX hbl hbA hS hv1 dL_law_414 ?_
        refine lv_aload_n hx hb dL_law_415 rfl (lv_at hl 0 rfl) ?_
        refine lv_iload_n hx hb dL_law_416 rfl (lv_at hl 3 rfl) ?_
        refine lv_iconst (v := 2) hx hb dL_law_417 (by decide) ?_
        refine lv_iadd hx hb dL_law_418 ?_
        refine va_sld hx hb hX hbl hbA hS hv2 dL_law_419 ?_
        refine kS_i (va_runV (As := [.int (xs (x3 + 1).toNatClampNeg), .int (xs (x3 + 2).toNatClampNeg)]) (rest := [.int r]) ⟨hx, hb, hml, hown, hts⟩ (c_X12_written l s.heap.size D adm ckm fm gm am (xs (x3 + 1).toNatClampNeg) (xs (x3 + 2).toNatClampNeg) r e2) (cwV 2 hts gL_law_X12_written rfl rfl rfl ⟨rfl, pX12_written⟩ ⟨Nat.le_of_ble_eq_true rfl, Nat.le_of_ble_eq_true rfl⟩) (kR.preV (va_recv hKm hPm (ci := 12) (q0 := 0) rfl rfl) hPm (hEm.kept hS hid)) rfl rfl hl.1 rfl (lv_room (Nat.le_of_ble_eq_true rfl)) dL_law_420 ⟨Nat.le_of_ble_eq_true rfl, Nat.le_of_ble_eq_true rfl⟩) ?_
        refine lv_icmp_eq (tgt := 728) hx hb dL_law_423 (by decide) (fun _ => ?_) (fun z => absurd rfl z)
        exact next fx gx ax fm gm am hRel2 _ _ hPx hPm hDx hDm hS
      by_cases hc10 : sw = 10
      · refine lv_tableIn (tgt := 428) (off := 396) hx hb dL_law_32 (by rw [hc10]; decide) (by rw [hc10]; decide) (by rw [hc10]; rfl) (by decide) ?_
        refine lv_aload_n hx hb dL_law_428 rfl (lv_at hl 1 rfl) ?_
        refine lv_aload_n hx hb dL_law_429 rfl (lv_at hl 0 rfl) ?_
        refine lv_iload_n hx hb dL_law_430 rfl (lv_at hl 3 rfl) ?_
        refine lv_iconst (v := 1) hx hb dL_law_431 (by decide) ?_
        refine lv_iadd hx hb dL_law_432 ?_
        refine va_sld hx hb hX hbl hbA hS hv1 dL_law_433 ?_
        refine lv_aload_n hx hb dL_law_434 rfl (lv_at hl 0 rfl) ?_
        refine lv_iload_n hx hb dL_law_435 rfl (lv_at hl 3 rfl) ?_
        refine lv_iconst (v := 2) hx hb dL_law_436 (by decide) ?_
        refine lv_iadd hx hb dL_law_437 ?_
        refine va_sld hx hb hX hbl hbA hS hv2 dL_law_438 ?_
        obtain ⟨r, ⟨fx2, gx2, ax2⟩, ⟨fm2, gm2, am2⟩, e1, e2, hRel2⟩ := h_moves i hi fx gx ax fm gm am (xs (x3 + 1).toNatClampNeg) (xs (x3 + 2).toNatClampNeg) hRel
        refine kS_w2 (va_runV (As := [.int (xs (x3 + 1).toNatClampNeg), .int (xs (x3 + 2).toNatClampNeg)]) (rest := []) ⟨hx, hb, hml, hown, hts⟩ (c_X11_moves l s.heap.size D adx ckx fx gx ax (xs (x3 + 1).toNatClampNeg) (xs (x3 + 2).toNatClampNeg) (r, fx2, gx2, ax2) e1) (cwV 2 hts gL_law_X11_moves rfl rfl rfl ⟨rfl, pX11_moves⟩ ⟨Nat.le_of_ble_eq_true rfl, Nat.le_of_ble_eq_true rfl⟩) (kW.preV (va_recv hKx hPx (ci := 11) (q0 := 0) rfl rfl) hPx (hEx.kept hS hid) hDx hid) rfl rfl hl.1 rfl (lv_room (Nat.le_of_ble_eq_true rfl)) dL_law_439 ⟨Nat.le_of_ble_eq_true rfl, Nat.le_of_ble_eq_true rfl⟩) hDx hPm (kApart rfl rfl hap) hS rfl (fun H locs hPx hPm hDx hS => ?_)
        refine lv_aload_n hx hb dL_law_442 rfl (lv_at hl 2 rfl) ?_
        refine lv_aload_n hx hb dL_law_443 rfl (lv_at hl 0 rfl) ?_
        refine lv_iload_n hx hb dL_law_444 rfl (lv_at hl 3 rfl) ?_
        refine lv_iconst (v := 1) hx hb dL_law_445 (by decide) ?_
        refine lv_iadd hx hb dL_law_446 ?_
        refine va_sld hx hb hX hbl hbA hS hv1 dL_law_447 ?_
        refine lv_aload_n hx hb dL_law_448 rfl (lv_at hl 0 rfl) ?_
        refine lv_iload_n hx hb dL_law_449 rfl (lv_at hl 3 rfl) ?_
        refine lv_iconst (v := 2) hx hb dL_law_450 (by decide) ?_
        refine lv_iadd hx hb dL_law_451 ?_
        refine va_sld hx hb hX hbl hbA hS hv2 dL_law_452 ?_
        refine kS_w2 (va_runV (As := [.int (xs (x3 + 1).toNatClampNeg), .int (xs (x3 + 2).toNatClampNeg)]) (rest := [.int r]) ⟨hx, hb, hml, hown, hts⟩ (c_X12_moves l s.heap.size D adm ckm fm gm am (xs (x3 + 1).toNatClampNeg) (xs (x3 + 2).toNatClampNeg) (r, fm2, gm2, am2) e2) (cwV 2 hts gL_law_X12_moves rfl rfl rfl ⟨rfl, pX12_moves⟩ ⟨Nat.le_of_ble_eq_true rfl, Nat.le_of_ble_eq_true rfl⟩) (kW.preV (va_recv hKm hPm (ci := 12) (q0 := 0) rfl rfl) hPm (hEm.kept hS hid) hDm hid) rfl rfl hl.1 rfl (lv_room (Nat.le_of_ble_eq_true rfl)) dL_law_453 ⟨Nat.le_of_ble_eq_true rfl, Nat.le_of_ble_eq_true rfl⟩) hDm hPx (kApart' rfl rfl hap) hS rfl (fun H locs hPm hPx hDm hS => ?_)
        refine lv_icmp_eq (tgt := 728) hx hb dL_law_456 (by decide) (fun _ => ?_) (fun z => absurd rfl z)
        exact next fx2 gx2 ax2 fm2 gm2 am2 hRel2 _ _ hPx hPm hDx hDm hS
      by_cases hc11 : sw = 11
      · refine lv_tableIn (tgt := 461) (off := 429) hx hb dL_law_32 (by rw [hc11]; decide) (by rw [hc11]; decide) (by rw [hc11]; rfl) (by decide) ?_
        refine lv_aload_n hx hb dL_law_461 rfl (lv_at hl 1 rfl) ?_
        refine lv_aload_n hx hb dL_law_462 rfl (lv_at hl 0 rfl) ?_
        refine lv_iload_n hx hb dL_law_463 rfl (lv_at hl 3 rfl) ?_
        refine lv_iconst (v := 1) hx hb dL_law_464 (by decide) ?_
        refine lv_iadd hx hb dL_law_465 ?_
        refine va_sld hx hb hX hbl hbA hS hv1 dL_law_466 ?_
        refine lv_aload_n hx hb dL_law_467 rfl (lv_at hl 0 rfl) ?_
        refine lv_iload_n hx hb dL_law_468 rfl (lv_at hl 3 rfl) ?_
        refine lv_iconst (v := 2) hx hb dL_law_469 (by decide) ?_
        refine lv_iadd hx hb dL_law_470 ?_
        refine va_sld hx hb hX hbl hbA hS hv2 dL_law_471 ?_
        obtain ⟨r, ⟨fx2, gx2, ax2⟩, ⟨fm2, gm2, am2⟩, e1, e2, hRel2⟩ := h_days i hi fx gx ax fm gm am (xs (x3 + 1).toNatClampNeg) (xs (x3 + 2).toNatClampNeg) hRel
        refine kS_w2 (va_runV (As := [.int (xs (x3 + 1).toNatClampNeg), .int (xs (x3 + 2).toNatClampNeg)]) (rest := []) ⟨hx, hb, hml, hown, hts⟩ (c_X11_days l s.heap.size D adx ckx fx gx ax (xs (x3 + 1).toNatClampNeg) (xs (x3 + 2).toNatClampNeg) (r, fx2, gx2, ax2) e1) (cwV 2 hts gL_law_X11_days rfl rfl rfl ⟨rfl, pX11_days⟩ ⟨Nat.le_of_ble_eq_true rfl, Nat.le_of_ble_eq_true rfl⟩) (kW.preV (va_recv hKx hPx (ci := 11) (q0 := 0) rfl rfl) hPx (hEx.kept hS hid) hDx hid) rfl rfl hl.1 rfl (lv_room (Nat.le_of_ble_eq_true rfl)) dL_law_472 ⟨Nat.le_of_ble_eq_true rfl, Nat.le_of_ble_eq_true rfl⟩) hDx hPm (kApart rfl rfl hap) hS rfl (fun H locs hPx hPm hDx hS => ?_)
        refine lv_aload_n hx hb dL_law_475 rfl (lv_at hl 2 rfl) ?_
        refine lv_aload_n hx hb dL_law_476 rfl (lv_at hl 0 rfl) ?_
        refine lv_iload_n hx hb dL_law_477 rfl (lv_at hl 3 rfl) ?_
        refine lv_iconst (v := 1) hx hb dL_law_478 (by decide) ?_
        refine lv_iadd hx hb dL_law_479 ?_
        refine va_sld hx hb hX hbl hbA hS hv1 dL_law_480 ?_
        refine lv_aload_n hx hb dL_law_481 rfl (lv_at hl 0 rfl) ?_
        refine lv_iload_n hx hb dL_law_482 rfl (lv_at hl 3 rfl) ?_
        refine lv_iconst (v := 2) hx hb dL_law_483 (by decide) ?_
        refine lv_iadd hx hb dL_law_484 ?_
        refine va_sld hx hb hX hbl hbA hS hv2 dL_law_485 ?_
        refine kS_w2 (va_runV (As := [.int (xs (x3 + 1).toNatClampNeg), .int (xs (x3 + 2).toNatClampNeg)]) (rest := [.int r]) ⟨hx, hb, hml, hown, hts⟩ (c_X12_days l s.heap.size D adm ckm fm gm am (xs (x3 + 1).toNatClampNeg) (xs (x3 + 2).toNatClampNeg) (r, fm2, gm2, am2) e2) (cwV 2 hts gL_law_X12_days rfl rfl rfl ⟨rfl, pX12_days⟩ ⟨Nat.le_of_ble_eq_true rfl, Nat.le_of_ble_eq_true rfl⟩) (kW.preV (va_recv hKm hPm (ci := 12) (q0 := 0) rfl rfl) hPm (hEm.kept hS hid) hDm hid) rfl rfl hl.1 rfl (lv_room (Nat.le_of_ble_eq_true rfl)) dL_law_486 ⟨Nat.le_of_ble_eq_true rfl, Nat.le_of_ble_eq_true rfl⟩) hDm hPx (kApart' rfl rfl hap) hS rfl (fun H locs hPm hPx hDm hS => ?_)
        refine lv_icmp_eq (tgt := 728) hx hb dL_law_489 (by decide) (fun _ => ?_) (fun z => absurd rfl z)
        exact next fx2 gx2 ax2 fm2 gm2 am2 hRel2 _ _ hPx hPm hDx hDm hS
      by_cases hc12 : sw = 12
      · refine lv_tableIn (tgt := 494) (off := 462) hx hb dL_law_32 (by rw [hc12]; decide) (by rw [hc12]; decide) (by rw [hc12]; rfl) (by decide) ?_
        refine lv_aload_n hx hb dL_law_494 rfl (lv_at hl 1 rfl) ?_
        refine lv_aload_n hx hb dL_law_495 rfl (lv_at hl 0 rfl) ?_
        refine lv_iload_n hx hb dL_law_496 rfl (lv_at hl 3 rfl) ?_
        refine lv_iconst (v := 1) hx hb dL_law_497 (by decide) ?_
        refine lv_iadd hx hb dL_law_498 ?_
        refine va_sld hx hb hX hbl hbA hS hv1 dL_law_499 ?_
        refine lv_aload_n hx hb dL_law_500 rfl (lv_at hl 0 rfl) ?_
        refine lv_iload_n hx hb dL_law_501 rfl (lv_at hl 3 rfl) ?_
        refine lv_iconst (v := 2) hx hb dL_law_502 (by decide) ?_
        refine lv_iadd hx hb dL_law_503 ?_
        refine va_sld hx hb hX hbl hbA hS hv2 dL_law_504 ?_
        refine lv_aload_n hx hb dL_law_505 rfl (lv_at hl 0 rfl) ?_
        refine lv_iload_n hx hb dL_law_506 rfl (lv_at hl 3 rfl) ?_
        refine lv_iconst (v := 3) hx hb dL_law_507 (by decide) ?_
        refine lv_iadd hx hb dL_law_508 ?_
        refine va_sld hx hb hX hbl hbA hS hv3 dL_law_509 ?_
        refine lv_if_eq (tgt := 517) hx hb dL_law_510 (by decide) (fun hb0 => ?_) (fun hb0 => ?_)
        · refine lv_iconst (v := 0) hx hb dL_law_517 (by decide) ?_
          obtain ⟨r, ⟨fx2, gx2, ax2⟩, ⟨fm2, gm2, am2⟩, e1, e2, hRel2⟩ := h_hear i hi fx gx ax fm gm am (xs (x3 + 1).toNatClampNeg) (xs (x3 + 2).toNatClampNeg) 0 hRel (Or.inl rfl)
          refine kS_w2 (va_runV (As := [.int (xs (x3 + 1).toNatClampNeg), .int (xs (x3 + 2).toNatClampNeg), .int 0]) (rest := []) ⟨hx, hb, hml, hown, hts⟩ (c_X11_hear l s.heap.size D adx ckx fx gx ax (xs (x3 + 1).toNatClampNeg) (xs (x3 + 2).toNatClampNeg) 0 (r, fx2, gx2, ax2) e1) (cwV 3 hts gL_law_X11_hear rfl rfl rfl ⟨rfl, pX11_hear⟩ ⟨Nat.le_of_ble_eq_true rfl, Nat.le_of_ble_eq_true rfl⟩) (kW.preV (va_recv hKx hPx (ci := 11) (q0 := 0) rfl rfl) hPx (hEx.kept hS hid) hDx hid) rfl rfl hl.1 rfl (lv_room (Nat.le_of_ble_eq_true rfl)) dL_law_518 ⟨Nat.le_of_ble_eq_true rfl, Nat.le_of_ble_eq_true rfl⟩) hDx hPm (kApart rfl rfl hap) hS rfl (fun H locs hPx hPm hDx hS => ?_)
          refine lv_aload_n hx hb dL_law_521 rfl (lv_at hl 2 rfl) ?_
          refine lv_aload_n hx hb dL_law_522 rfl (lv_at hl 0 rfl) ?_
          refine lv_iload_n hx hb dL_law_523 rfl (lv_at hl 3 rfl) ?_
          refine lv_iconst (v := 1) hx hb dL_law_524 (by decide) ?_
          refine lv_iadd hx hb dL_law_525 ?_
          refine va_sld hx hb hX hbl hbA hS hv1 dL_law_526 ?_
          refine lv_aload_n hx hb dL_law_527 rfl (lv_at hl 0 rfl) ?_
          refine lv_iload_n hx hb dL_law_528 rfl (lv_at hl 3 rfl) ?_
          refine lv_iconst (v := 2) hx hb dL_law_529 (by decide) ?_
          refine lv_iadd hx hb dL_law_530 ?_
          refine va_sld hx hb hX hbl hbA hS hv2 dL_law_531 ?_
          refine lv_aload_n hx hb dL_law_532 rfl (lv_at hl 0 rfl) ?_
          refine lv_iload_n hx hb dL_law_533 rfl (lv_at hl 3 rfl) ?_
          refine lv_iconst (v := 3) hx hb dL_law_534 (by decide) ?_
          refine lv_iadd hx hb dL_law_535 ?_
          refine va_sld hx hb hX hbl hbA hS hv3 dL_law_536 ?_
          refine lv_if_eq (tgt := 544) hx hb dL_law_537 (by decide) (fun hb1 => ?_) (fun hb1 => absurd hb0 hb1)
          refine lv_iconst (v := 0) hx hb dL_law_544 (by decide) ?_
          refine kS_w2 (va_runV (As := [.int (xs (x3 + 1).toNatClampNeg), .int (xs (x3 + 2).toNatClampNeg), .int 0]) (rest := [.int r]) ⟨hx, hb, hml, hown, hts⟩ (c_X12_hear l s.heap.size D adm ckm fm gm am (xs (x3 + 1).toNatClampNeg) (xs (x3 + 2).toNatClampNeg) 0 (r, fm2, gm2, am2) e2) (cwV 3 hts gL_law_X12_hear rfl rfl rfl ⟨rfl, pX12_hear⟩ ⟨Nat.le_of_ble_eq_true rfl, Nat.le_of_ble_eq_true rfl⟩) (kW.preV (va_recv hKm hPm (ci := 12) (q0 := 0) rfl rfl) hPm (hEm.kept hS hid) hDm hid) rfl rfl hl.1 rfl (lv_room (Nat.le_of_ble_eq_true rfl)) dL_law_545 ⟨Nat.le_of_ble_eq_true rfl, Nat.le_of_ble_eq_true rfl⟩) hDm hPx (kApart' rfl rfl hap) hS rfl (fun H locs hPm hPx hDm hS => ?_)
          refine lv_icmp_eq (tgt := 728) hx hb dL_law_548 (by decide) (fun _ => ?_) (fun z => absurd rfl z)
          exact next fx2 gx2 ax2 fm2 gm2 am2 hRel2 _ _ hPx hPm hDx hDm hS
        · refine lv_iconst (v := 1) hx hb dL_law_513 (by decide) ?_
          refine lv_goto (tgt := 518) hx hb dL_law_514 (by decide) ?_
          obtain ⟨r, ⟨fx2, gx2, ax2⟩, ⟨fm2, gm2, am2⟩, e1, e2, hRel2⟩ := h_hear i hi fx gx ax fm gm am (xs (x3 + 1).toNatClampNeg) (xs (x3 + 2).toNatClampNeg) 1 hRel (Or.inr rfl)
          refine kS_w2 (va_runV (As := [.int (xs (x3 + 1).toNatClampNeg), .int (xs (x3 + 2).toNatClampNeg), .int 1]) (rest := []) ⟨hx, hb, hml, hown, hts⟩ (c_X11_hear l s.heap.size D adx ckx fx gx ax (xs (x3 + 1).toNatClampNeg) (xs (x3 + 2).toNatClampNeg) 1 (r, fx2, gx2, ax2) e1) (cwV 3 hts gL_law_X11_hear rfl rfl rfl ⟨rfl, pX11_hear⟩ ⟨Nat.le_of_ble_eq_true rfl, Nat.le_of_ble_eq_true rfl⟩) (kW.preV (va_recv hKx hPx (ci := 11) (q0 := 0) rfl rfl) hPx (hEx.kept hS hid) hDx hid) rfl rfl hl.1 rfl (lv_room (Nat.le_of_ble_eq_true rfl)) dL_law_518 ⟨Nat.le_of_ble_eq_true rfl, Nat.le_of_ble_eq_true rfl⟩) hDx hPm (kApart rfl rfl hap) hS rfl (fun H locs hPx hPm hDx hS => ?_)
          refine lv_aload_n hx hb dL_law_521 rfl (lv_at hl 2 rfl) ?_
          refine lv_aload_n hx hb dL_law_522 rfl (lv_at hl 0 rfl) ?_
          refine lv_iload_n hx hb dL_law_523 rfl (lv_at hl 3 rfl) ?_
          refine lv_iconst (v := 1) hx hb dL_law_524 (by decide) ?_
          refine lv_iadd hx hb dL_law_525 ?_
          refine va_sld hx hb hX hbl hbA hS hv1 dL_law_526 ?_
          refine lv_aload_n hx hb dL_law_527 rfl (lv_at hl 0 rfl) ?_
          refine lv_iload_n hx hb dL_law_528 rfl (lv_at hl 3 rfl) ?_
          refine lv_iconst (v := 2) hx hb dL_law_529 (by decide) ?_
          refine lv_iadd hx hb dL_law_530 ?_
          refine va_sld hx hb hX hbl hbA hS hv2 dL_law_531 ?_
          refine lv_aload_n hx hb dL_law_532 rfl (lv_at hl 0 rfl) ?_
          refine lv_iload_n hx hb dL_law_533 rfl (lv_at hl 3 rfl) ?_
          refine lv_iconst (v := 3) hx hb dL_law_534 (by decide) ?_
          refine lv_iadd hx hb dL_law_535 ?_
          refine va_sld hx hb hX hbl hbA hS hv3 dL_law_536 ?_
          refine lv_if_eq (tgt := 544) hx hb dL_law_537 (by decide) (fun hb1 => absurd hb1 hb0) (fun hb1 => ?_)
          refine lv_iconst (v := 1) hx hb dL_law_540 (by decide) ?_
          refine lv_goto (tgt := 545) hx hb dL_law_541 (by decide) ?_
          refine kS_w2 (va_runV (As := [.int (xs (x3 + 1).toNatClampNeg), .int (xs (x3 + 2).toNatClampNeg), .int 1]) (rest := [.int r]) ⟨hx, hb, hml, hown, hts⟩ (c_X12_hear l s.heap.size D adm ckm fm gm am (xs (x3 + 1).toNatClampNeg) (xs (x3 + 2).toNatClampNeg) 1 (r, fm2, gm2, am2) e2) (cwV 3 hts gL_law_X12_hear rfl rfl rfl ⟨rfl, pX12_hear⟩ ⟨Nat.le_of_ble_eq_true rfl, Nat.le_of_ble_eq_true rfl⟩) (kW.preV (va_recv hKm hPm (ci := 12) (q0 := 0) rfl rfl) hPm (hEm.kept hS hid) hDm hid) rfl rfl hl.1 rfl (lv_room (Nat.le_of_ble_eq_true rfl)) dL_law_545 ⟨Nat.le_of_ble_eq_true rfl, Nat.le_of_ble_eq_true rfl⟩) hDm hPx (kApart' rfl rfl hap) hS rfl (fun H locs hPm hPx hDm hS => ?_)
          refine lv_icmp_eq (tgt := 728) hx hb dL_law_548 (by decide) (fun _ => ?_) (fun z => absurd rfl z)
          exact next fx2 gx2 ax2 fm2 gm2 am2 hRel2 _ _ hPx hPm hDx hDm hS
      by_cases hc13 : sw = 13
      · refine lv_tableIn (tgt := 553) (off := 521) hx hb dL_law_32 (by rw [hc13]; decide) (by rw [hc13]; decide) (by rw [hc13]; rfl) (by decide) ?_
        refine lv_aload_n hx hb dL_law_553 rfl (lv_at hl 1 rfl) ?_
        obtain ⟨r, ⟨fx2, gx2, ax2⟩, ⟨fm2, gm2, am2⟩, e1, e2, hRel2⟩ := h_forget i hi fx gx ax fm gm am  hRel
        refine kS_w2 (va_runV (As := []) (rest := []) ⟨hx, hb, hml, hown, hts⟩ (c_X11_forget l s.heap.size D adx ckx fx gx ax  (r, fx2, gx2, ax2) e1) (cwV 0 hts gL_law_X11_forget rfl rfl rfl ⟨rfl, pX11_forget⟩ ⟨Nat.le_of_ble_eq_true rfl, Nat.le_of_ble_eq_true rfl⟩) (kW.preV (va_recv hKx hPx (ci := 11) (q0 := 0) rfl rfl) hPx (hEx.kept hS hid) hDx hid) rfl rfl hl.1 rfl (lv_room (Nat.le_of_ble_eq_true rfl)) dL_law_554 ⟨Nat.le_of_ble_eq_true rfl, Nat.le_of_ble_eq_true rfl⟩) hDx hPm (kApart rfl rfl hap) hS rfl (fun H locs hPx hPm hDx hS => ?_)
        refine lv_aload_n hx hb dL_law_557 rfl (lv_at hl 2 rfl) ?_
        refine kS_w2 (va_runV (As := []) (rest := [.int r]) ⟨hx, hb, hml, hown, hts⟩ (c_X12_forget l s.heap.size D adm ckm fm gm am  (r, fm2, gm2, am2) e2) (cwV 0 hts gL_law_X12_forget rfl rfl rfl ⟨rfl, pX12_forget⟩ ⟨Nat.le_of_ble_eq_true rfl, Nat.le_of_ble_eq_true rfl⟩) (kW.preV (va_recv hKm hPm (ci := 12) (q0 := 0) rfl rfl) hPm (hEm.kept hS hid) hDm hid) rfl rfl hl.1 rfl (lv_room (Nat.le_of_ble_eq_true rfl)) dL_law_558 ⟨Nat.le_of_ble_eq_true rfl, Nat.le_of_ble_eq_true rfl⟩) hDm hPx (kApart' rfl rfl hap) hS rfl (fun H locs hPm hPx hDm hS => ?_)
        refine lv_icmp_eq (tgt := 728) hx hb dL_law_561 (by decide) (fun _ => ?_) (fun z => absurd rfl z)
        exact next fx2 gx2 ax2 fm2 gm2 am2 hRel2 _ _ hPx hPm hDx hDm hS
      by_cases hc14 : sw = 14
      · refine lv_tableIn (tgt := 566) (off := 534) hx hb dL_law_32 (by rw [hc14]; decide) (by rw [hc14]; decide) (by rw [hc14]; rfl) (by decide) ?_
        refine lv_aload_n hx hb dL_law_566 rfl (lv_at hl 1 rfl) ?_
        refine lv_aload_n hx hb dL_law_567 rfl (lv_at hl 0 rfl) ?_
        refine lv_iload_n hx hb dL_law_568 rfl (lv_at hl 3 rfl) ?_
        refine lv_iconst (v := 1) hx hb dL_law_569 (by decide) ?_
        refine lv_iadd hx hb dL_law_570 ?_
        refine va_sld hx hb hX hbl hbA hS hv1 dL_law_571 ?_
        refine lv_aload_n hx hb dL_law_572 rfl (lv_at hl 0 rfl) ?_
        refine lv_iload_n hx hb dL_law_573 rfl (lv_at hl 3 rfl) ?_
        refine lv_iconst (v := 2) hx hb dL_law_574 (by decide) ?_
        refine lv_iadd hx hb dL_law_575 ?_
        refine va_sld hx hb hX hbl hbA hS hv2 dL_law_576 ?_
        obtain ⟨r, ⟨fx2, gx2, ax2⟩, e1, e2, hRel2⟩ := h_holders i hi fx gx ax fm gm am (xs (x3 + 1).toNatClampNeg) (xs (x3 + 2).toNatClampNeg) hRel
        refine kS_w2 (va_runV (As := [.int (xs (x3 + 1).toNatClampNeg), .int (xs (x3 + 2).toNatClampNeg)]) (rest := []) ⟨hx, hb, hml, hown, hts⟩ (c_X11_holders l s.heap.size D adx ckx fx gx ax (xs (x3 + 1).toNatClampNeg) (xs (x3 + 2).toNatClampNeg) (r, fx2, gx2, ax2) e1) (cwV 2 hts gL_law_X11_holders rfl rfl rfl ⟨rfl, pX11_holders⟩ ⟨Nat.le_of_ble_eq_true rfl, Nat.le_of_ble_eq_true rfl⟩) (kW.preV (va_recv hKx hPx (ci := 11) (q0 := 0) rfl rfl) hPx (hEx.kept hS hid) hDx hid) rfl rfl hl.1 rfl (lv_room (Nat.le_of_ble_eq_true rfl)) dL_law_577 ⟨Nat.le_of_ble_eq_true rfl, Nat.le_of_ble_eq_true rfl⟩) hDx hPm (kApart rfl rfl hap) hS rfl (fun H locs hPx hPm hDx hS => ?_)
        refine lv_aload_n hx hb dL_law_580 rfl (lv_at hl 2 rfl) ?_
        refine lv_aload_n hx hb dL_law_581 rfl (lv_at hl 0 rfl) ?_
        refine lv_iload_n hx hb dL_law_582 rfl (lv_at hl 3 rfl) ?_
        refine lv_iconst (v := 1) hx hb dL_law_583 (by decide) ?_
        refine lv_iadd hx hb dL_law_584 ?_
        refine va_sld hx hb hX hbl hbA hS hv1 dL_law_585 ?_
        refine lv_aload_n hx hb dL_law_586 rfl (lv_at hl 0 rfl) ?_
        refine lv_iload_n hx hb dL_law_587 rfl (lv_at hl 3 rfl) ?_
        refine lv_iconst (v := 2) hx hb dL_law_588 (by decide) ?_
        refine lv_iadd hx hb dL_law_589 ?_
        refine va_sld hx hb hX hbl hbA hS hv2 dL_law_590 ?_
        refine kS_i (va_runV (As := [.int (xs (x3 + 1).toNatClampNeg), .int (xs (x3 + 2).toNatClampNeg)]) (rest := [.int r]) ⟨hx, hb, hml, hown, hts⟩ (c_X12_holders l s.heap.size D adm ckm fm gm am (xs (x3 + 1).toNatClampNeg) (xs (x3 + 2).toNatClampNeg) r e2) (cwV 2 hts gL_law_X12_holders rfl rfl rfl ⟨rfl, pX12_holders⟩ ⟨Nat.le_of_ble_eq_true rfl, Nat.le_of_ble_eq_true rfl⟩) (kR.preV (va_recv hKm hPm (ci := 12) (q0 := 0) rfl rfl) hPm (hEm.kept hS hid)) rfl rfl hl.1 rfl (lv_room (Nat.le_of_ble_eq_true rfl)) dL_law_591 ⟨Nat.le_of_ble_eq_true rfl, Nat.le_of_ble_eq_true rfl⟩) ?_
        refine lv_icmp_eq (tgt := 728) hx hb dL_law_594 (by decide) (fun _ => ?_) (fun z => absurd rfl z)
        exact next fx2 gx2 ax2 fm gm am hRel2 _ _ hPx hPm hDx hDm hS
      by_cases hc15 : sw = 15
      · refine lv_tableIn (tgt := 599) (off := 567) hx hb dL_law_32 (by rw [hc15]; decide) (by rw [hc15]; decide) (by rw [hc15]; rfl) (by decide) ?_
        refine lv_aload_n hx hb dL_law_599 rfl (lv_at hl 1 rfl) ?_
        refine lv_aload_n hx hb dL_law_600 rfl (lv_at hl 0 rfl) ?_
        refine lv_iload_n hx hb dL_law_601 rfl (lv_at hl 3 rfl) ?_
        refine lv_iconst (v := 1) hx hb dL_law_602 (by decide) ?_
        refine lv_iadd hx hb dL_law_603 ?_
        refine va_sld hx hb hX hbl hbA hS hv1 dL_law_604 ?_
        obtain ⟨r, ⟨fx2, gx2, ax2⟩, e1, e2, hRel2⟩ := h_invite i hi fx gx ax fm gm am (xs (x3 + 1).toNatClampNeg) hRel
        refine kS_w2 (va_runV (As := [.int (xs (x3 + 1).toNatClampNeg)]) (rest := []) ⟨hx, hb, hml, hown, hts⟩ (c_X11_invite l s.heap.size D adx ckx fx gx ax (xs (x3 + 1).toNatClampNeg) (r, fx2, gx2, ax2) e1) (cwV 1 hts gL_law_X11_invite rfl rfl rfl ⟨rfl, pX11_invite⟩ ⟨Nat.le_of_ble_eq_true rfl, Nat.le_of_ble_eq_true rfl⟩) (kW.preV (va_recv hKx hPx (ci := 11) (q0 := 0) rfl rfl) hPx (hEx.kept hS hid) hDx hid) rfl rfl hl.1 rfl (lv_room (Nat.le_of_ble_eq_true rfl)) dL_law_605 ⟨Nat.le_of_ble_eq_true rfl, Nat.le_of_ble_eq_true rfl⟩) hDx hPm (kApart rfl rfl hap) hS rfl (fun H locs hPx hPm hDx hS => ?_)
        refine lv_aload_n hx hb dL_law_608 rfl (lv_at hl 2 rfl) ?_
        refine lv_aload_n hx hb dL_law_609 rfl (lv_at hl 0 rfl) ?_
        refine lv_iload_n hx hb dL_law_610 rfl (lv_at hl 3 rfl) ?_
        refine lv_iconst (v := 1) hx hb dL_law_611 (by decide) ?_
        refine lv_iadd hx hb dL_law_612 ?_
        refine va_sld hx hb hX hbl hbA hS hv1 dL_law_613 ?_
        refine kS_i (va_runV (As := [.int (xs (x3 + 1).toNatClampNeg)]) (rest := [.int r]) ⟨hx, hb, hml, hown, hts⟩ (c_X12_invite l s.heap.size D adm ckm fm gm am (xs (x3 + 1).toNatClampNeg) r e2) (cwV 1 hts gL_law_X12_invite rfl rfl rfl ⟨rfl, pX12_invite⟩ ⟨Nat.le_of_ble_eq_true rfl, Nat.le_of_ble_eq_true rfl⟩) (kR.preV (va_recv hKm hPm (ci := 12) (q0 := 0) rfl rfl) hPm (hEm.kept hS hid)) rfl rfl hl.1 rfl (lv_room (Nat.le_of_ble_eq_true rfl)) dL_law_614 ⟨Nat.le_of_ble_eq_true rfl, Nat.le_of_ble_eq_true rfl⟩) ?_
        refine lv_icmp_eq (tgt := 728) hx hb dL_law_617 (by decide) (fun _ => ?_) (fun z => absurd rfl z)
        exact next fx2 gx2 ax2 fm gm am hRel2 _ _ hPx hPm hDx hDm hS
      by_cases hc16 : sw = 16
      · refine lv_tableIn (tgt := 622) (off := 590) hx hb dL_law_32 (by rw [hc16]; decide) (by rw [hc16]; decide) (by rw [hc16]; rfl) (by decide) ?_
        refine lv_aload_n hx hb dL_law_622 rfl (lv_at hl 1 rfl) ?_
        refine lv_aload_n hx hb dL_law_623 rfl (lv_at hl 0 rfl) ?_
        refine lv_iload_n hx hb dL_law_624 rfl (lv_at hl 3 rfl) ?_
        refine lv_iconst (v := 1) hx hb dL_law_625 (by decide) ?_
        refine lv_iadd hx hb dL_law_626 ?_
        refine va_sld hx hb hX hbl hbA hS hv1 dL_law_627 ?_
        refine lv_aload_n hx hb dL_law_628 rfl (lv_at hl 0 rfl) ?_
        refine lv_iload_n hx hb dL_law_629 rfl (lv_at hl 3 rfl) ?_
        refine lv_iconst (v := 2) hx hb dL_law_630 (by decide) ?_
        refine lv_iadd hx hb dL_law_631 ?_
        refine va_sld hx hb hX hbl hbA hS hv2 dL_law_632 ?_
        refine lv_aload_n hx hb dL_law_633 rfl (lv_at hl 0 rfl) ?_
        refine lv_iload_n hx hb dL_law_634 rfl (lv_at hl 3 rfl) ?_
        refine lv_iconst (v := 3) hx hb dL_law_635 (by decide) ?_
        refine lv_iadd hx hb dL_law_636 ?_
        refine va_sld hx hb hX hbl hbA hS hv3 dL_law_637 ?_
        obtain ⟨r, ⟨fx2, gx2, ax2⟩, ⟨fm2, gm2, am2⟩, e1, e2, hRel2⟩ := h_years i hi fx gx ax fm gm am (xs (x3 + 1).toNatClampNeg) (xs (x3 + 2).toNatClampNeg) (xs (x3 + 3).toNatClampNeg) hRel
        refine kS_w2 (va_runV (As := [.int (xs (x3 + 1).toNatClampNeg), .int (xs (x3 + 2).toNatClampNeg), .int (xs (x3 + 3).toNatClampNeg)]) (rest := []) ⟨hx, hb, hml, hown, hts⟩ (c_X11_years l s.heap.size D adx ckx fx gx ax (xs (x3 + 1).toNatClampNeg) (xs (x3 + 2).toNatClampNeg) (xs (x3 + 3).toNatClampNeg) (r, fx2, gx2, ax2) e1) (cwV 3 hts gL_law_X11_years rfl rfl rfl ⟨rfl, pX11_years⟩ ⟨Nat.le_of_ble_eq_true rfl, Nat.le_of_ble_eq_true rfl⟩) (kW.preV (va_recv hKx hPx (ci := 11) (q0 := 0) rfl rfl) hPx (hEx.kept hS hid) hDx hid) rfl rfl hl.1 rfl (lv_room (Nat.le_of_ble_eq_true rfl)) dL_law_638 ⟨Nat.le_of_ble_eq_true rfl, Nat.le_of_ble_eq_true rfl⟩) hDx hPm (kApart rfl rfl hap) hS rfl (fun H locs hPx hPm hDx hS => ?_)
        refine lv_aload_n hx hb dL_law_641 rfl (lv_at hl 2 rfl) ?_
        refine lv_aload_n hx hb dL_law_642 rfl (lv_at hl 0 rfl) ?_
        refine lv_iload_n hx hb dL_law_643 rfl (lv_at hl 3 rfl) ?_
        refine lv_iconst (v := 1) hx hb dL_law_644 (by decide) ?_
        refine lv_iadd hx hb dL_law_645 ?_
        refine va_sld hx hb hX hbl hbA hS hv1 dL_law_646 ?_
        refine lv_aload_n hx hb dL_law_647 rfl (lv_at hl 0 rfl) ?_
        refine lv_iload_n hx hb dL_law_648 rfl (lv_at hl 3 rfl) ?_
        refine lv_iconst (v := 2) hx hb dL_law_649 (by decide) ?_
        refine lv_iadd hx hb dL_law_650 ?_
        refine va_sld hx hb hX hbl hbA hS hv2 dL_law_651 ?_
        refine lv_aload_n hx hb dL_law_652 rfl (lv_at hl 0 rfl) ?_
        refine lv_iload_n hx hb dL_law_653 rfl (lv_at hl 3 rfl) ?_
        refine lv_iconst (v := 3) hx hb dL_law_654 (by decide) ?_
        refine lv_iadd hx hb dL_law_655 ?_
        refine va_sld hx hb hX hbl hbA hS hv3 dL_law_656 ?_
        refine kS_w2 (va_runV (As := [.int (xs (x3 + 1).toNatClampNeg), .int (xs (x3 + 2).toNatClampNeg), .int (xs (x3 + 3).toNatClampNeg)]) (rest := [.int r]) ⟨hx, hb, hml, hown, hts⟩ (c_X12_years l s.heap.size D adm ckm fm gm am (xs (x3 + 1).toNatClampNeg) (xs (x3 + 2).toNatClampNeg) (xs (x3 + 3).toNatClampNeg) (r, fm2, gm2, am2) e2) (cwV 3 hts gL_law_X12_years rfl rfl rfl ⟨rfl, pX12_years⟩ ⟨Nat.le_of_ble_eq_true rfl, Nat.le_of_ble_eq_true rfl⟩) (kW.preV (va_recv hKm hPm (ci := 12) (q0 := 0) rfl rfl) hPm (hEm.kept hS hid) hDm hid) rfl rfl hl.1 rfl (lv_room (Nat.le_of_ble_eq_true rfl)) dL_law_657 ⟨Nat.le_of_ble_eq_true rfl, Nat.le_of_ble_eq_true rfl⟩) hDm hPx (kApart' rfl rfl hap) hS rfl (fun H locs hPm hPx hDm hS => ?_)
        refine lv_icmp_eq (tgt := 728) hx hb dL_law_660 (by decide) (fun _ => ?_) (fun z => absurd rfl z)
        exact next fx2 gx2 ax2 fm2 gm2 am2 hRel2 _ _ hPx hPm hDx hDm hS
      by_cases hc17 : sw = 17
      · refine lv_tableIn (tgt := 665) (off := 633) hx hb dL_law_32 (by rw [hc17]; decide) (by rw [hc17]; decide) (by rw [hc17]; rfl) (by decide) ?_
        refine lv_aload_n hx hb dL_law_665 rfl (lv_at hl 1 rfl) ?_
        obtain ⟨r, ⟨fx2, gx2, ax2⟩, ⟨fm2, gm2, am2⟩, e1, e2, hRel2⟩ := h_image i hi fx gx ax fm gm am  hRel
        refine kS_w2 (va_runV (As := []) (rest := []) ⟨hx, hb, hml, hown, hts⟩ (c_X11_image l s.heap.size D adx ckx fx gx ax  (r, fx2, gx2, ax2) e1) (cwV 0 hts gL_law_X11_image rfl rfl rfl ⟨rfl, pX11_image⟩ ⟨Nat.le_of_ble_eq_true rfl, Nat.le_of_ble_eq_true rfl⟩) (kW.preV (va_recv hKx hPx (ci := 11) (q0 := 0) rfl rfl) hPx (hEx.kept hS hid) hDx hid) rfl rfl hl.1 rfl (lv_room (Nat.le_of_ble_eq_true rfl)) dL_law_666 ⟨Nat.le_of_ble_eq_true rfl, Nat.le_of_ble_eq_true rfl⟩) hDx hPm (kApart rfl rfl hap) hS rfl (fun H locs hPx hPm hDx hS => ?_)
        refine lv_aload_n hx hb dL_law_669 rfl (lv_at hl 2 rfl) ?_
        refine kS_w2 (va_runV (As := []) (rest := [.int r]) ⟨hx, hb, hml, hown, hts⟩ (c_X12_image l s.heap.size D adm ckm fm gm am  (r, fm2, gm2, am2) e2) (cwV 0 hts gL_law_X12_image rfl rfl rfl ⟨rfl, pX12_image⟩ ⟨Nat.le_of_ble_eq_true rfl, Nat.le_of_ble_eq_true rfl⟩) (kW.preV (va_recv hKm hPm (ci := 12) (q0 := 0) rfl rfl) hPm (hEm.kept hS hid) hDm hid) rfl rfl hl.1 rfl (lv_room (Nat.le_of_ble_eq_true rfl)) dL_law_670 ⟨Nat.le_of_ble_eq_true rfl, Nat.le_of_ble_eq_true rfl⟩) hDm hPx (kApart' rfl rfl hap) hS rfl (fun H locs hPm hPx hDm hS => ?_)
        refine lv_icmp_eq (tgt := 728) hx hb dL_law_673 (by decide) (fun _ => ?_) (fun z => absurd rfl z)
        exact next fx2 gx2 ax2 fm2 gm2 am2 hRel2 _ _ hPx hPm hDx hDm hS
      by_cases hc18 : sw = 18
      · refine lv_tableIn (tgt := 678) (off := 646) hx hb dL_law_32 (by rw [hc18]; decide) (by rw [hc18]; decide) (by rw [hc18]; rfl) (by decide) ?_
        refine lv_aload_n hx hb dL_law_678 rfl (lv_at hl 1 rfl) ?_
        obtain ⟨r, ⟨fx2, gx2, ax2⟩, ⟨fm2, gm2, am2⟩, e1, e2, hRel2⟩ := h_restore i hi fx gx ax fm gm am  hRel
        refine kS_w2 (va_runV (As := []) (rest := []) ⟨hx, hb, hml, hown, hts⟩ (c_X11_restore l s.heap.size D adx ckx fx gx ax  (r, fx2, gx2, ax2) e1) (cwV 0 hts gL_law_X11_restore rfl rfl rfl ⟨rfl, pX11_restore⟩ ⟨Nat.le_of_ble_eq_true rfl, Nat.le_of_ble_eq_true rfl⟩) (kW.preV (va_recv hKx hPx (ci := 11) (q0 := 0) rfl rfl) hPx (hEx.kept hS hid) hDx hid) rfl rfl hl.1 rfl (lv_room (Nat.le_of_ble_eq_true rfl)) dL_law_679 ⟨Nat.le_of_ble_eq_true rfl, Nat.le_of_ble_eq_true rfl⟩) hDx hPm (kApart rfl rfl hap) hS rfl (fun H locs hPx hPm hDx hS => ?_)
        refine lv_aload_n hx hb dL_law_682 rfl (lv_at hl 2 rfl) ?_
        refine kS_w2 (va_runV (As := []) (rest := [.int r]) ⟨hx, hb, hml, hown, hts⟩ (c_X12_restore l s.heap.size D adm ckm fm gm am  (r, fm2, gm2, am2) e2) (cwV 0 hts gL_law_X12_restore rfl rfl rfl ⟨rfl, pX12_restore⟩ ⟨Nat.le_of_ble_eq_true rfl, Nat.le_of_ble_eq_true rfl⟩) (kW.preV (va_recv hKm hPm (ci := 12) (q0 := 0) rfl rfl) hPm (hEm.kept hS hid) hDm hid) rfl rfl hl.1 rfl (lv_room (Nat.le_of_ble_eq_true rfl)) dL_law_683 ⟨Nat.le_of_ble_eq_true rfl, Nat.le_of_ble_eq_true rfl⟩) hDm hPx (kApart' rfl rfl hap) hS rfl (fun H locs hPm hPx hDm hS => ?_)
        refine lv_icmp_eq (tgt := 728) hx hb dL_law_686 (by decide) (fun _ => ?_) (fun z => absurd rfl z)
        exact next fx2 gx2 ax2 fm2 gm2 am2 hRel2 _ _ hPx hPm hDx hDm hS
      by_cases hc19 : sw = 19
      · refine lv_tableIn (tgt := 691) (off := 659) hx hb dL_law_32 (by rw [hc19]; decide) (by rw [hc19]; decide) (by rw [hc19]; rfl) (by decide) ?_
        refine lv_aload_n hx hb dL_law_691 rfl (lv_at hl 1 rfl) ?_
        refine lv_aload_n hx hb dL_law_692 rfl (lv_at hl 0 rfl) ?_
        refine lv_iload_n hx hb dL_law_693 rfl (lv_at hl 3 rfl) ?_
        refine lv_iconst (v := 1) hx hb dL_law_694 (by decide) ?_
        refine lv_iadd hx hb dL_law_695 ?_
        refine va_sld hx hb hX hbl hbA hS hv1 dL_law_696 ?_
        obtain ⟨r, e1, e2, hRel2⟩ := h_count i hi fx gx ax fm gm am (xs (x3 + 1).toNatClampNeg) hRel
        refine kS_i (va_runV (As := [.int (xs (x3 + 1).toNatClampNeg)]) (rest := []) ⟨hx, hb, hml, hown, hts⟩ (c_X11_count l s.heap.size D adx ckx fx gx ax (xs (x3 + 1).toNatClampNeg) r e1) (cwV 1 hts gL_law_X11_count rfl rfl rfl ⟨rfl, pX11_count⟩ ⟨Nat.le_of_ble_eq_true rfl, Nat.le_of_ble_eq_true rfl⟩) (kR.preV (va_recv hKx hPx (ci := 11) (q0 := 0) rfl rfl) hPx (hEx.kept hS hid)) rfl rfl hl.1 rfl (lv_room (Nat.le_of_ble_eq_true rfl)) dL_law_697 ⟨Nat.le_of_ble_eq_true rfl, Nat.le_of_ble_eq_true rfl⟩) ?_
        refine lv_aload_n hx hb dL_law_700 rfl (lv_at hl 2 rfl) ?_
        refine lv_aload_n hx hb dL_law_701 rfl (lv_at hl 0 rfl) ?_
        refine lv_iload_n hx hb dL_law_702 rfl (lv_at hl 3 rfl) ?_
        refine lv_iconst (v := 1) hx hb dL_law_703 (by decide) ?_
        refine lv_iadd hx hb dL_law_704 ?_
        refine va_sld hx hb hX hbl hbA hS hv1 dL_law_705 ?_
        refine kS_i (va_runV (As := [.int (xs (x3 + 1).toNatClampNeg)]) (rest := [.int r]) ⟨hx, hb, hml, hown, hts⟩ (c_X12_count l s.heap.size D adm ckm fm gm am (xs (x3 + 1).toNatClampNeg) r e2) (cwV 1 hts gL_law_X12_count rfl rfl rfl ⟨rfl, pX12_count⟩ ⟨Nat.le_of_ble_eq_true rfl, Nat.le_of_ble_eq_true rfl⟩) (kR.preV (va_recv hKm hPm (ci := 12) (q0 := 0) rfl rfl) hPm (hEm.kept hS hid)) rfl rfl hl.1 rfl (lv_room (Nat.le_of_ble_eq_true rfl)) dL_law_706 ⟨Nat.le_of_ble_eq_true rfl, Nat.le_of_ble_eq_true rfl⟩) ?_
        refine lv_icmp_eq (tgt := 728) hx hb dL_law_709 (by decide) (fun _ => ?_) (fun z => absurd rfl z)
        exact next fx gx ax fm gm am hRel2 _ _ hPx hPm hDx hDm hS
      by_cases hc20 : sw = 20
      · refine lv_tableIn (tgt := 714) (off := 682) hx hb dL_law_32 (by rw [hc20]; decide) (by rw [hc20]; decide) (by rw [hc20]; rfl) (by decide) ?_
        refine lv_aload_n hx hb dL_law_714 rfl (lv_at hl 1 rfl) ?_
        obtain ⟨r, ⟨fx2, gx2, ax2⟩, ⟨fm2, gm2, am2⟩, e1, e2, hRel2⟩ := h_digest i hi fx gx ax fm gm am  hRel
        refine kS_w2 (va_runV (As := []) (rest := []) ⟨hx, hb, hml, hown, hts⟩ (c_X11_digest l s.heap.size D adx ckx fx gx ax  (r, fx2, gx2, ax2) e1) (cwV 0 hts gL_law_X11_digest rfl rfl rfl ⟨rfl, pX11_digest⟩ ⟨Nat.le_of_ble_eq_true rfl, Nat.le_of_ble_eq_true rfl⟩) (kW.preV (va_recv hKx hPx (ci := 11) (q0 := 0) rfl rfl) hPx (hEx.kept hS hid) hDx hid) rfl rfl hl.1 rfl (lv_room (Nat.le_of_ble_eq_true rfl)) dL_law_715 ⟨Nat.le_of_ble_eq_true rfl, Nat.le_of_ble_eq_true rfl⟩) hDx hPm (kApart rfl rfl hap) hS rfl (fun H locs hPx hPm hDx hS => ?_)
        refine lv_aload_n hx hb dL_law_718 rfl (lv_at hl 2 rfl) ?_
        refine kS_w2 (va_runV (As := []) (rest := [.long r]) ⟨hx, hb, hml, hown, hts⟩ (c_X12_digest l s.heap.size D adm ckm fm gm am  (r, fm2, gm2, am2) e2) (cwV 0 hts gL_law_X12_digest rfl rfl rfl ⟨rfl, pX12_digest⟩ ⟨Nat.le_of_ble_eq_true rfl, Nat.le_of_ble_eq_true rfl⟩) (kW.preV (va_recv hKm hPm (ci := 12) (q0 := 0) rfl rfl) hPm (hEm.kept hS hid) hDm hid) rfl rfl hl.1 rfl (lv_room (Nat.le_of_ble_eq_true rfl)) dL_law_719 ⟨Nat.le_of_ble_eq_true rfl, Nat.le_of_ble_eq_true rfl⟩) hDm hPx (kApart' rfl rfl hap) hS rfl (fun H locs hPm hPx hDm hS => ?_)
        refine W.lcmp hx hb dL_law_722 ?_
        refine lv_if_eq (tgt := 728) hx hb dL_law_723 (by decide) (fun _ => ?_) (fun z => absurd (law_cmp r) z)
        exact next fx2 gx2 ax2 fm2 gm2 am2 hRel2 _ _ hPx hPm hDx hDm hS
      refine lv_tableOut (tgt := 728) hx hb dL_law_32 (by have z0 := lv_neT (a := 0) hc0 (by decide); have z1 := lv_neT (a := 1) hc1 (by decide); have z2 := lv_neT (a := 2) hc2 (by decide); have z3 := lv_neT (a := 3) hc3 (by decide); have z4 := lv_neT (a := 4) hc4 (by decide); have z5 := lv_neT (a := 5) hc5 (by decide); have z6 := lv_neT (a := 6) hc6 (by decide); have z7 := lv_neT (a := 7) hc7 (by decide); have z8 := lv_neT (a := 8) hc8 (by decide); have z9 := lv_neT (a := 9) hc9 (by decide); have z10 := lv_neT (a := 10) hc10 (by decide); have z11 := lv_neT (a := 11) hc11 (by decide); have z12 := lv_neT (a := 12) hc12 (by decide); have z13 := lv_neT (a := 13) hc13 (by decide); have z14 := lv_neT (a := 14) hc14 (by decide); have z15 := lv_neT (a := 15) hc15 (by decide); have z16 := lv_neT (a := 16) hc16 (by decide); have z17 := lv_neT (a := 17) hc17 (by decide); have z18 := lv_neT (a := 18) hc18 (by decide); have z19 := lv_neT (a := 19) hc19 (by decide); have z20 := lv_neT (a := 20) hc20 (by decide); omega) (by decide) ?_
      exact next fx gx ax fm gm am (h_mono i _ _ hRel) _ _ hPx hPm hDx hDm hS
