/-! ===== 73: holders ===== -/
theorem cnt_mono (Q : Nat → Bool) {a b : Nat} (h : a ≤ b) : cnt Q a ≤ cnt Q b := by
  induction b with
  | zero => rw [show a = 0 by omega]; exact Nat.le_refl _
  | succ b ih =>
    by_cases q : a = b + 1
    · rw [q]; exact Nat.le_refl _
    · have := ih (by omega)
      rw [show cnt Q (b + 1) = cnt Q b + (if Q b then 1 else 0) from rfl]
      omega
theorem cnt_lt (Q : Nat → Bool) {a b : Nat} (h : a < b) (hq : Q a = true) : cnt Q a < cnt Q b := by
  have h1 := cnt_mono Q (show a + 1 ≤ b from h)
  rw [show cnt Q (a + 1) = cnt Q a + (if Q a then 1 else 0) from rfl, hq] at h1
  simp at h1
  omega
def AA (V : Nat → Nat → Nat) (hd n p c : Nat) : Bool := agf V p (c / n) (c % n) hd
theorem GX_tr {n hd : Nat} {V : Nat → Nat → Nat} {f f2 : Nat → Int32} {a a2 : Nat → Nat → Int32} (h : GX n hd V f a) (hf : ∀ t, t ≠ 16 → t ≠ 17 → f2 t = f t) (ha : ∀ t, t ≠ 28 → t ≠ 29 → a2 t = a t) : GX n hd V f2 a2 := by
  obtain ⟨⟨⟨h1, h2, h3⟩, h4⟩, h5, h6, h7⟩ := h
  refine ⟨⟨⟨h1, (hf 5 (by decide) (by decide)).trans h2, ?_⟩, ?_⟩, h5, (hf 7 (by decide) (by decide)).trans h6, ?_⟩
  · rw [ha 31 (by decide) (by decide), ha 16 (by decide) (by decide)]; exact h3
  · rw [ha 14 (by decide) (by decide), ha 15 (by decide) (by decide)]; exact h4
  · rw [ha 17 (by decide) (by decide), ha 18 (by decide) (by decide), ha 19 (by decide) (by decide)]; exact h7
/-- what gather has laid when c codes are through -/
def GI (V : Nat → Nat → Nat) (hd n p : Nat) (f : Nat → Int32) (a : Nat → Nat → Int32) (c : Nat) (f2 : Nat → Int32) (a2 : Nat → Nat → Int32) : Prop := f2 16 = nI p ∧ f2 17 = nI (cnt (AA V hd n p) c) ∧ (∀ t, t ≠ 16 → t ≠ 17 → f2 t = f t) ∧ (∀ t, t ≠ 28 → t ≠ 29 → a2 t = a t) ∧ ∀ c', c' < c → AA V hd n p c' = true → a2 28 (cnt (AA V hd n p) c') = nI (c' / n) ∧ a2 29 (cnt (AA V hd n p) c') = nI (c' % n)
theorem sq25 {n j i : Nat} (hn : n ≤ 5) (hj : j < n) (hi : i < n) : j * n + i < 25 := by
  rcases (show n = 1 ∨ n = 2 ∨ n = 3 ∨ n = 4 ∨ n = 5 by omega) with rfl | rfl | rfl | rfl | rfl <;> omega
theorem GI_step {V : Nat → Nat → Nat} {hd n p j i : Nat} {f : Nat → Int32} {a : Nat → Nat → Int32} {f2 : Nat → Int32} {g : Nat → Int64} {a2 : Nat → Nat → Int32} (h : GX n hd V f a) (hp : p < n) (hj : j < n) (hi : i < n) (hG : GI V hd n p f a (j * n + i) f2 a2) : ∃ f3 a3, B_X1_gather_23 f2 g a2 (nI j) (nI i) = some (.inl (nI (i + 1), f3, g, a3)) ∧ GI V hd n p f a (j * n + (i + 1)) f3 a3 := by
  have hn := h.1.1.1
  have hGc := hG
  obtain ⟨g1, g2, g3, g4, g5⟩ := hG
  have hx := GX_tr h g3 g4
  have e5 : f2 5 = nI n := hx.1.1.2.1
  have hc25 := sq25 hn hj hi
  have hm : cnt (AA V hd n p) (j * n + i) < 25 := by have := cnt_le (AA V hd n p) (j * n + i); omega
  have ed : (j * n + i) / n = j := by rw [Nat.mul_comm, Nat.mul_add_div (by omega), Nat.div_eq_of_lt hi]; rfl
  have em : (j * n + i) % n = i := by rw [Nat.mul_comm, Nat.mul_add_mod, Nat.mod_eq_of_lt hi]
  have eA : AA V hd n p (j * n + i) = agf V p j i hd := by unfold AA; rw [ed, em]
  have key : B_X1_gather_23 f2 g a2 (nI j) (nI i) = if agf V p j i hd = true then some (.inl (nI (i + 1), upd f2 17 (nI (cnt (AA V hd n p) (j * n + i) + 1)), g, us (us a2 28 (upd (a2 28) (cnt (AA V hd n p) (j * n + i)) (nI j))) 29 (upd (a2 29) (cnt (AA V hd n p) (j * n + i)) (nI i)))) else some (.inl (nI (i + 1), f2, g, a2)) := by
    unfold B_X1_gather_23 N_X1_gather_78
    rw [if_neg (by rw [e5]; exact nlt' hi (by omega)), agX_eq hx hp g1 (by omega) (by omega)]
    simp only [Option.bind_some, g2, put_in (n := 25) hm (by omega), nI_1]
    cases agf V p j i hd <;> rfl
  cases e : agf V p j i hd with
  | false =>
    rw [e, if_neg (by decide)] at key
    refine ⟨f2, a2, key, g1, ?_, g3, g4, ?_⟩
    · rw [g2, show j * n + (i + 1) = j * n + i + 1 from rfl, show cnt (AA V hd n p) (j * n + i + 1) = cnt (AA V hd n p) (j * n + i) + (if AA V hd n p (j * n + i) then 1 else 0) from rfl, eA, e]
      rfl
    · intro c' hc' hA
      by_cases q : c' = j * n + i
      · rw [q, eA, e] at hA; cases hA
      · exact g5 c' (by omega) hA
  | true =>
    rw [e, if_pos rfl] at key
    refine ⟨_, _, key, g1, ?_, ?_, ?_, ?_⟩
    · rw [upd_s, show j * n + (i + 1) = j * n + i + 1 from rfl, show cnt (AA V hd n p) (j * n + i + 1) = cnt (AA V hd n p) (j * n + i) + (if AA V hd n p (j * n + i) then 1 else 0) from rfl, eA, e]
      rfl
    · intro t q1 q2
      rw [upd_n _ _ q2]; exact g3 t q1 q2
    · intro t q1 q2
      rw [us_n _ _ q2, us_n _ _ q1]; exact g4 t q1 q2
    · intro c' hc' hA
      show upd (a2 28) (cnt (AA V hd n p) (j * n + i)) (nI j) (cnt (AA V hd n p) c') = nI (c' / n) ∧ upd (a2 29) (cnt (AA V hd n p) (j * n + i)) (nI i) (cnt (AA V hd n p) c') = nI (c' % n)
      by_cases q : c' = j * n + i
      · rw [q, upd_s, upd_s, ed, em]; exact ⟨rfl, rfl⟩
      · have hl := cnt_lt (AA V hd n p) (show c' < j * n + i by omega) hA
        rw [upd_n _ _ (by omega), upd_n _ _ (by omega)]
        exact g5 c' (by omega) hA
theorem gat_eq {V : Nat → Nat → Nat} {hd n p : Nat} {f : Nat → Int32} {g : Nat → Int64} {a : Nat → Nat → Int32} (h : GX n hd V f a) (hp : p < n) : ∃ f2 a2, F_X1_gather f g a (nI p) = some (f2, g, a2) ∧ GI V hd n p f a (n * n) f2 a2 := by
  have hn := h.1.1.1
  unfold F_X1_gather N_X1_gather_12
  refine Exists.elim (lp_inv (b := fun q12 : (Int32 × ST) => B_X1_gather_12 q12.2.1 q12.2.2.1 q12.2.2.2 q12.1) (fun j s => ∃ f2 a2, s = (nI j, f2, g, a2) ∧ GI V hd n p f a (j * n) f2 a2) (fun r => ∃ f2 a2, r = (f2, g, a2) ∧ GI V hd n p f a (n * n) f2 a2) n ?_ ?_ (by omega) (0, upd (upd f 16 (nI p)) 17 0, g, a) ⟨_, _, rfl, rfl, by rw [Nat.zero_mul]; rfl, fun t q1 q2 => by rw [upd_n _ _ q2, upd_n _ _ q1], fun t _ _ => rfl, fun c' hc' => absurd hc' (by omega)⟩) ?_
  rotate_left 2
  · rintro r ⟨w1, f2, a2, rfl, w2⟩
    exact ⟨f2, a2, w1, w2⟩
  · rintro j hj s ⟨f2, a2, rfl, hG⟩
    have e5 : f2 5 = nI n := (GX_tr h hG.2.2.1 hG.2.2.2.1).1.1.2.1
    have inner : ∃ r, N_X1_gather_23 f2 g a2 (nI j) 0 = some r ∧ ∃ f3 a3, r = .inl (nI (j + 1), f3, g, a3) ∧ GI V hd n p f a ((j + 1) * n) f3 a3 := by
      unfold N_X1_gather_23
      refine lp_inv (b := fun q23 : (Int32 × ST) => B_X1_gather_23 q23.2.1 q23.2.2.1 q23.2.2.2 (nI j) q23.1) (fun i s => ∃ f3 a3, s = (nI i, f3, g, a3) ∧ GI V hd n p f a (j * n + i) f3 a3) (fun r => ∃ f3 a3, r = .inl (nI (j + 1), f3, g, a3) ∧ GI V hd n p f a ((j + 1) * n) f3 a3) n ?_ ?_ (by omega) (0, f2, g, a2) ⟨f2, a2, rfl, hG⟩
      · rintro i hi s ⟨f3, a3, rfl, hG3⟩
        obtain ⟨f4, a4, k1, k2⟩ := GI_step (g := g) h hp hj hi hG3
        exact ⟨_, k1, f4, a4, rfl, k2⟩
      · rintro s ⟨f3, a3, rfl, hG3⟩
        have e5' : f3 5 = nI n := (GX_tr h hG3.2.2.1 hG3.2.2.2.1).1.1.2.1
        refine ⟨_, ?_, f3, a3, rfl, by rw [Nat.succ_mul]; exact hG3⟩
        unfold B_X1_gather_23
        dsimp only
        rw [if_pos (by rw [e5']; exact nI_le (Nat.le_refl n) (by omega)), nI_1]
        rfl
    obtain ⟨r, w1, f3, a3, rfl, w2⟩ := inner
    refine ⟨_, ?_, f3, a3, rfl, w2⟩
    unfold B_X1_gather_12
    dsimp only
    rw [if_neg (by rw [e5]; exact nlt' hj (by omega)), w1]
  · rintro s ⟨f2, a2, rfl, hG⟩
    have e5 : f2 5 = nI n := (GX_tr h hG.2.2.1 hG.2.2.2.1).1.1.2.1
    refine ⟨_, ?_, f2, a2, rfl, hG⟩
    unfold B_X1_gather_12
    dsimp only
    rw [if_pos (by rw [e5]; exact nI_le (Nat.le_refl n) (by omega))]
    rfl
def ls (A : Nat → Bool) (n : Nat) : Nat → Nat → Int32
  | 0, _ => -1
  | m + 1, c => if A c then nI (10 * (c / n) + c % n) else ls A n m (c + 1)
theorem ls_least {A : Nat → Bool} {n N : Nat} {r1 r2 : Nat → Int32} (h : ∀ c, c < N → A c = true → r1 (cnt A c) = nI (c / n) ∧ r2 (cnt A c) = nI (c % n)) : ∀ m c, c + m = N → cnt A c = 0 → ls A n m c = if cnt A N = 0 then -1 else (10 : Int32) * r1 0 + r2 0
  | 0, c, hc, h0 => by
    rw [Nat.add_zero] at hc
    subst hc
    rw [if_pos h0]
    rfl
  | m + 1, c, hc, h0 => by
    rw [show ls A n (m + 1) c = if A c then nI (10 * (c / n) + c % n) else ls A n m (c + 1) from rfl]
    cases e : A c with
    | true =>
      have h1 := cnt_lt A (show c < N by omega) e
      obtain ⟨h2, h3⟩ := h c (by omega) e
      rw [h0] at h2 h3
      rw [if_pos rfl, if_neg (by omega), h2, h3, show (10 : Int32) = nI 10 from rfl, pk_mul, nI_add]
    | false =>
      rw [if_neg (by decide)]
      exact ls_least h m (c + 1) (by omega) (by rw [show cnt A (c + 1) = cnt A c + (if A c then 1 else 0) from rfl, h0, e]; rfl)
theorem least_eq {V : Nat → Nat → Nat} {hd n p : Nat} {f f2 : Nat → Int32} {g : Nat → Int64} {a a2 : Nat → Nat → Int32} (hn : n ≤ 5) (hG : GI V hd n p f a (n * n) f2 a2) : F_X1_least f2 g a2 = ls (AA V hd n p) n (n * n) 0 := by
  obtain ⟨g1, g2, g3, g4, g5⟩ := hG
  have hN : cnt (AA V hd n p) (n * n) < 2 ^ 31 := by
    have h1 := cnt_le (AA V hd n p) (n * n)
    have h2 : n * n ≤ 5 * 5 := Nat.mul_le_mul hn hn
    omega
  rw [ls_least (r1 := a2 28) (r2 := a2 29) g5 (n * n) 0 (by omega) rfl]
  unfold F_X1_least
  rw [g2, show F_at 25 (a2 28) 0 = a2 28 0 from at_in (i := 0) (by omega) (by omega), show F_at 25 (a2 29) 0 = a2 29 0 from at_in (i := 0) (by omega) (by omega)]
  by_cases q : cnt (AA V hd n p) (n * n) = 0
  · rw [if_pos q, if_pos ((nz hN).mpr q)]
  · rw [if_neg q, if_neg (fun z => q ((nz hN).mp z))]
def xf (m : Nat) : Int32 := nI m + (-1)
theorem hnM_eq {V : Nat → Nat → Nat} {hd n p : Nat} {f : Nat → Int32} {g : Nat → Int64} {a : Nat → Nat → Int32} (h : GM n hd V f a) (hp : p < n) (x2 : Int32) : F_X12_holdersNow f g a (nI p) x2 = some (if x2 = 0 then nI (cnt (AA V hd n p) (n * n)) else ls (AA V hd n p) n (n * n) 0) := by
  have hn := h.1.1.1
  have h1 := h.1.1.2.1
  have h25 : n * n ≤ 5 * 5 := Nat.mul_le_mul hn hn
  have hnz : gd (α := Int32 ⊕ Int32) (nzB (nI n)) = gd true := by
    unfold nzB
    rw [decide_eq_false (fun z => by have := (nz (by omega)).mp z; omega)]
    rfl
  have hnb : nzB (nI n) = true := by
    unfold nzB
    rw [decide_eq_false (fun z => by have := (nz (by omega)).mp z; omega)]
    rfl
  unfold F_X12_holdersNow N_X12_holdersNow_18
  refine lp_all (fun j => (nI (cnt (AA V hd n p) (n * n) - cnt (AA V hd n p) (n * n - j)), ls (AA V hd n p) n j (n * n - j), xf (n * n - j))) (n * n) _ _ ?_ ?_ ?_ (by omega)
  · rw [h1, pk_mul]
    show (_, _, _) = (nI (_ - cnt _ (n * n - 0)), ls _ n 0 _, xf (n * n - 0))
    rw [Nat.sub_zero, Nat.sub_self, Int32.sub_eq_add_neg]
    rfl
  · intro j hj
    obtain ⟨c, hc⟩ : ∃ c, n * n - j = c + 1 := ⟨n * n - j - 1, by omega⟩
    have hc2 : n * n - (j + 1) = c := by omega
    have hcN : c < n * n := by omega
    have hdn : c / n < n := Nat.div_lt_of_lt_mul hcN
    have hmn : c % n < n := Nat.mod_lt _ (by omega)
    have hrem : nI c - nI (c / n) * nI n = nI (c % n) := by
      have := pk_rem (a := c) (d := n) (by omega) (by omega) (by omega)
      rwa [pk_div (by omega) (by omega) (by omega)] at this
    unfold B_X12_holdersNow_18 N_X12_holdersNow_55 N_X12_holdersNow_85
    dsimp only
    rw [hc, hc2, show xf (c + 1) = nI c from pk_m1 c, if_neg (nI_pos (by omega)), h1]
    simp only [gd_t hnb, hrem, pk_div (show c < 2 ^ 31 by omega) (show 0 < n by omega) (show n < 2 ^ 31 by omega), agM_eq h hp (show c / n < 5 by omega) (show c % n < 5 by omega), Option.bind_some]
    rw [show agf V p (c / n) (c % n) hd = AA V hd n p c from rfl]
    have e2 : cnt (AA V hd n p) (c + 1) = cnt (AA V hd n p) c + (if AA V hd n p c then 1 else 0) := rfl
    have e3 : ls (AA V hd n p) n (j + 1) c = if AA V hd n p c then nI (10 * (c / n) + c % n) else ls (AA V hd n p) n j (c + 1) := rfl
    have e4 := cnt_mono (AA V hd n p) (show c + 1 ≤ n * n from hcN)
    cases e : AA V hd n p c with
    | false =>
      rw [e] at e2 e3
      rw [e2, e3]
      show some (Sum.inl (nI _ + 0, _, nI c + (-1))) = _
      rw [Int32.add_zero]
      rfl
    | true =>
      rw [e] at e2 e3
      have e2 : cnt (AA V hd n p) (c + 1) = cnt (AA V hd n p) c + 1 := e2
      rw [e3]
      show some (Sum.inl (nI _ + 1, (10 : Int32) * nI (c / n) + nI (c % n), nI c + (-1))) = _
      rw [nI_1, show (10 : Int32) = nI 10 from rfl, pk_mul, nI_add, show cnt (AA V hd n p) (n * n) - cnt (AA V hd n p) (c + 1) + 1 = cnt (AA V hd n p) (n * n) - cnt (AA V hd n p) c by omega]
      rfl
  · unfold B_X12_holdersNow_18
    dsimp only
    rw [Nat.sub_self, if_pos (show xf 0 < 0 by decide), show cnt (AA V hd n p) 0 = 0 from rfl, Nat.sub_zero]
    by_cases q : x2 = 0
    · rw [if_pos q, if_pos q]; rfl
    · rw [if_neg q, if_neg q]; rfl
theorem Rel_gather {k n hd tw mv dy pl : Nat} {V : Nat → Nat → Nat} {pg : Nat → Nat} {f f2 f' : Nat → Int32} {g : Nat → Int64} {a a2 : Nat → Nat → Int32} {a' : Nat → Nat → Int32} {p : Nat} (hT : RT n (f 5) (f' 1) (a 31) (a' 2) V) (hX : PX n hd V (a 14) (a 15) (a 16) (f 6) (f 7) (a 17) (a 18) (a 19)) (hC : RC k tw mv dy f f') (hG : RG pl (f 4) (f' 14) (a 13) (a' 15) pg) (hK : RK n tw f f' a a') (hI : GI V hd n p f a (n * n) f2 a2) : RT n (f2 5) (f' 1) (a2 31) (a' 2) V ∧ PX n hd V (a2 14) (a2 15) (a2 16) (f2 6) (f2 7) (a2 17) (a2 18) (a2 19) ∧ RC k tw mv dy f2 f' ∧ RG pl (f2 4) (f' 14) (a2 13) (a' 15) pg ∧ RK n tw f2 f' a2 a' := by
  obtain ⟨_, _, hf, ha, _⟩ := hI
  refine ⟨?_, ?_, ?_, ?_, ?_⟩
  · rw [hf 5 (by decide) (by decide), ha 31 (by decide) (by decide)]; exact hT
  · rw [ha 14 (by decide) (by decide), ha 15 (by decide) (by decide), ha 16 (by decide) (by decide), hf 6 (by decide) (by decide), hf 7 (by decide) (by decide), ha 17 (by decide) (by decide), ha 18 (by decide) (by decide), ha 19 (by decide) (by decide)]; exact hX
  · unfold RC
    rw [hf 0 (by decide) (by decide), hf 2 (by decide) (by decide), hf 3 (by decide) (by decide), hf 8 (by decide) (by decide), hf 9 (by decide) (by decide)]; exact hC
  · rw [hf 4 (by decide) (by decide), ha 13 (by decide) (by decide)]; exact hG
  · unfold RK
    rw [hf 1 (by decide) (by decide), hf 10 (by decide) (by decide), hf 11 (by decide) (by decide), hf 12 (by decide) (by decide), hf 13 (by decide) (by decide), ha 20 (by decide) (by decide), ha 21 (by decide) (by decide), ha 22 (by decide) (by decide), ha 23 (by decide) (by decide), ha 24 (by decide) (by decide), ha 25 (by decide) (by decide)]; exact hK
