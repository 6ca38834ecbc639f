/-! ===== 80: days, the reference's search, the step ===== -/
theorem m_a31 (a : Nat) : nI a &&& 31 = nI (a % 32) := by
  rw [show (31 : Int32) = nI 31 from rfl, m_and, show (31 : Nat) = 2 ^ 5 - 1 from rfl, Nat.and_two_pow_sub_one_eq_mod]
theorem p32 : ∀ k, k < 4 → 2 ^ (5 * k) = 32 ^ k ∧ 32 ^ k ≤ 32768 := by decide +kernel
theorem dig_eq {code k : Nat} (hc : code < 2 ^ 31) (hk : k < 4) : (nI code >>> (((5 : Int32) * nI k) &&& 31)) &&& (31 : Int32) = nI (code / 32 ^ k % 32) := by
  rw [show (5 : Int32) * nI k = nI (5 * k) from pk_mul 5 k, m_shr hc (by omega), m_a31, (p32 k hk).1]
theorem wb_go {W : Nat → Nat} {n code : Nat} {f : Nat → Int32} {g : Nat → Int64} {a : Nat → Nat → Int32} (hn : n ≤ 5) (h1 : f 1 = nI n) (hW : ∀ c, c < 2 ^ n → a 16 c = nI (W c)) (hc : code < 2 ^ 31) : ∀ k, k ≤ 3 → ∀ b bf F, bf < 32 → k < F → lpN (fun q10 : (Int32 × Int32 × Int32) => B_X12_writtenBy_10 f g a (nI code) q10.1 q10.2.1 q10.2.2) F (nI b, nI bf, nI k + (-1)) = some (nI (wbr W (2 ^ n) k b bf (code % 32 ^ k)))
  | 0, _, b, bf, F, _, hF => by
    obtain ⟨F, rfl⟩ : ∃ m, F = m + 1 := ⟨F - 1, by omega⟩
    refine lpN_o ?_
    unfold B_X12_writtenBy_10
    dsimp only
    rw [if_pos (show nI 0 + (-1) < (0 : Int32) by decide)]
    rfl
  | k + 1, hk, b, bf, F, hbf, hF => by
    obtain ⟨F, rfl⟩ : ∃ m, F = m + 1 := ⟨F - 1, by omega⟩
    obtain ⟨q1, q2⟩ := pow5 hn
    have ih := wb_go (g := g) hn h1 hW hc k (by omega) (b ||| W (code / 32 ^ k % 32)) (code / 32 ^ k % 32) F (Nat.mod_lt _ (by decide)) (by omega)
    have hd : code / 32 ^ k % 32 < 32 := Nat.mod_lt _ (by decide)
    have e1 : code % 32 ^ (k + 1) / 32 ^ k = code / 32 ^ k % 32 := by rw [Nat.pow_succ, Nat.mod_mul_right_div_self]
    have e2 : code % 32 ^ (k + 1) % 32 ^ k = code % 32 ^ k := Nat.mod_mod_of_dvd _ (Nat.pow_dvd_pow 32 (Nat.le_succ k))
    have hdig := dig_eq hc (show k < 4 by omega)
    rw [wbr_s, e1, e2, pk_m1]
    generalize code / 32 ^ k % 32 = d at hd hdig ih ⊢
    by_cases c1 : 2 ^ n ≤ d
    · rw [if_pos c1]
      refine lpN_o ?_
      unfold B_X12_writtenBy_10
      dsimp only
      rw [if_neg (show ¬ nI k < 0 from nI_pos (by omega)), h1, m_shl1 (by omega), hdig, if_pos (show nI (2 ^ n) ≤ nI d from nI_le c1 (by omega))]
      rfl
    · rw [if_neg c1]
      by_cases c2 : bf ≤ d
      · rw [if_pos c2, ← ih]
        refine lpN_i ?_
        unfold B_X12_writtenBy_10
        dsimp only
        rw [if_neg (show ¬ nI k < 0 from nI_pos (by omega)), h1, m_shl1 (by omega), hdig, if_neg (show ¬ nI (2 ^ n) ≤ nI d from nlt' (by omega) (by omega)), if_pos (show nI bf ≤ nI d from nI_le c2 (by omega)), gd_t (inB_nI (show d < 32 by omega) (by omega)), nI_clamp (show d < 2 ^ 31 by omega), hW d (by omega), m_or]
      · rw [if_neg c2]
        refine lpN_o ?_
        unfold B_X12_writtenBy_10
        dsimp only
        rw [if_neg (show ¬ nI k < 0 from nI_pos (by omega)), h1, m_shl1 (by omega), hdig, if_neg (show ¬ nI (2 ^ n) ≤ nI d from nlt' (by omega) (by omega)), if_neg (show ¬ nI bf ≤ nI d from nlt' (by omega) (by omega))]
        rfl
theorem wbM_eq {W : Nat → Nat} {n m code : Nat} {f : Nat → Int32} {g : Nat → Int64} {a : Nat → Nat → Int32} (hn : n ≤ 5) (h1 : f 1 = nI n) (hW : ∀ c, c < 2 ^ n → a 16 c = nI (W c)) (hm1 : 1 ≤ m) (hm : m ≤ 3) (hc : code < 32 ^ m) : F_X12_writtenBy f g a (nI m) (nI code) = some (nI (wbr W (2 ^ n) m 0 0 code)) := by
  have l := (p32 m (by omega)).2
  have h := wb_go (g := g) hn h1 hW (show code < 2 ^ 31 by omega) m hm 0 0 kFu (by omega) (by unfold kFu; omega)
  rw [Nat.mod_eq_of_lt hc] at h
  unfold F_X12_writtenBy N_X12_writtenBy_10
  obtain ⟨j, rfl⟩ : ∃ j, m = j + 1 := ⟨m - 1, by omega⟩
  rw [pk_m1] at h
  rw [nI_pred]
  exact h
def dan (m code : Nat) (x : Int32) : Int32 := if x = 0 then nI m else if nI m ≤ (x - (10 : Int32)) then (-1) else ((nI code >>> (((5 : Int32) * ((nI m - (1 : Int32)) - (x - (10 : Int32)))) &&& 31)) &&& (31 : Int32))
theorem dn_st1 {W : Nat → Nat} {n m j S : Nat} {f : Nat → Int32} {g : Nat → Int64} {a : Nat → Nat → Int32} (hn : n ≤ 5) (h1 : f 1 = nI n) (hW : ∀ c, c < 2 ^ n → a 16 c = nI (W c)) (hm1 : 1 ≤ m) (hm : m ≤ 3) (hj : j < 32 ^ m) (hS0 : S ≠ 0) (hS : S < 32) (x : Int32) (hv : ¬ VB W (2 ^ n) S m 0 0 j) : B_X12_daysNow_28 f g a (nI S) x (nI m) (nI j) = some (.inl (nI (j + 1), f, g, a)) := by
  have l := p32 m (by omega)
  have l2 : wbr W (2 ^ n) m 0 0 j &&& S ≤ S := Nat.and_le_right
  unfold B_X12_daysNow_28
  rw [show (5 : Int32) * nI m = nI (5 * m) from pk_mul 5 m, m_shl1 (by omega), l.1, if_neg (show ¬ nI (32 ^ m) ≤ nI j from nlt' hj (by omega)), wbM_eq hn h1 hW hm1 hm hj]
  simp only [Option.bind_some]
  rw [m_and, if_neg (fun z => hv ((wbr_VB hS0 _ _ _ _).mp ((nI_eq (by omega) (by omega)).mp z))), nI_1]
theorem dn_st2 {W : Nat → Nat} {n m j S : Nat} {f : Nat → Int32} {g : Nat → Int64} {a : Nat → Nat → Int32} (hn : n ≤ 5) (h1 : f 1 = nI n) (hW : ∀ c, c < 2 ^ n → a 16 c = nI (W c)) (hm1 : 1 ≤ m) (hm : m ≤ 3) (hj : j < 32 ^ m) (hS0 : S ≠ 0) (x : Int32) (hv : VB W (2 ^ n) S m 0 0 j) : B_X12_daysNow_28 f g a (nI S) x (nI m) (nI j) = some (.inr (.inr (dan m j x, f, g, a))) := by
  have l := p32 m (by omega)
  unfold B_X12_daysNow_28 dan
  rw [show (5 : Int32) * nI m = nI (5 * m) from pk_mul 5 m, m_shl1 (by omega), l.1, if_neg (show ¬ nI (32 ^ m) ≤ nI j from nlt' hj (by omega)), wbM_eq hn h1 hW hm1 hm hj]
  simp only [Option.bind_some]
  rw [m_and, if_pos (show nI (wbr W (2 ^ n) m 0 0 j &&& S) = nI S by rw [(wbr_VB hS0 _ _ _ _).mpr hv])]
  by_cases c1 : x = 0
  · rw [if_pos c1, if_pos c1]; rfl
  · rw [if_neg c1, if_neg c1]
    by_cases c2 : nI m ≤ (x - (10 : Int32))
    · rw [if_pos c2, if_pos c2]; rfl
    · rw [if_neg c2, if_neg c2]; rfl
theorem dn28_a {W : Nat → Nat} {n m S : Nat} {f : Nat → Int32} {g : Nat → Int64} {a : Nat → Nat → Int32} (hn : n ≤ 5) (h1 : f 1 = nI n) (hW : ∀ c, c < 2 ^ n → a 16 c = nI (W c)) (hm1 : 1 ≤ m) (hm : m ≤ 3) (hS0 : S ≠ 0) (hS : S < 32) (x : Int32) (hv : ∀ code, code < 32 ^ m → ¬ VB W (2 ^ n) S m 0 0 code) : N_X12_daysNow_28 f g a (nI S) x (nI m) 0 = some (.inl (nI (m + 1), f, g, a)) := by
  have l := p32 m (by omega)
  unfold N_X12_daysNow_28
  refine lp_all (fun j => (nI j, f, g, a)) (32 ^ m) _ _ rfl ?_ ?_ (by omega)
  · intro j hj
    exact dn_st1 hn h1 hW hm1 hm hj hS0 hS x (hv j hj)
  · show B_X12_daysNow_28 f g a (nI S) x (nI m) (nI (32 ^ m)) = _
    unfold B_X12_daysNow_28
    rw [show (5 : Int32) * nI m = nI (5 * m) from pk_mul 5 m, m_shl1 (by omega), l.1, if_pos (show nI (32 ^ m) ≤ nI (32 ^ m) from nI_le (Nat.le_refl _) (by omega)), nI_1]
    rfl
theorem dn28_b {W : Nat → Nat} {n m S code : Nat} {f : Nat → Int32} {g : Nat → Int64} {a : Nat → Nat → Int32} (hn : n ≤ 5) (h1 : f 1 = nI n) (hW : ∀ c, c < 2 ^ n → a 16 c = nI (W c)) (hm1 : 1 ≤ m) (hm : m ≤ 3) (hS0 : S ≠ 0) (hS : S < 32) (x : Int32) (hc : code < 32 ^ m) (hv : VB W (2 ^ n) S m 0 0 code) (hl : ∀ code', code' < code → ¬ VB W (2 ^ n) S m 0 0 code') : N_X12_daysNow_28 f g a (nI S) x (nI m) 0 = some (.inr (dan m code x, f, g, a)) := by
  have l := p32 m (by omega)
  unfold N_X12_daysNow_28
  refine lp_all (fun j => (nI j, f, g, a)) code _ _ rfl ?_ ?_ (by omega)
  · intro j hj
    exact dn_st1 hn h1 hW hm1 hm (by omega) hS0 hS x (hl j hj)
  · exact dn_st2 hn h1 hW hm1 hm hc hS0 x hv
def fda (o : Option (Nat × Nat)) (x : Int32) : Int32 := match o with
  | none => -1
  | some q => dan q.1 q.2 x
theorem dn20_eq {W : Nat → Nat} {n S : Nat} {f : Nat → Int32} {g : Nat → Int64} {a : Nat → Nat → Int32} (hn : n ≤ 5) (h1 : f 1 = nI n) (hW : ∀ c, c < 2 ^ n → a 16 c = nI (W c)) (h0 : W 0 = 0) (hW2 : ∀ c, c < 2 ^ n → W c < 32) (hS0 : S ≠ 0) (hS : S < 32) (x : Int32) : N_X12_daysNow_20 f g a (nI S) x 1 = some (fda (fd W (2 ^ n) S) x, f, g, a) := by
  have hN := (pow5 hn).1
  unfold N_X12_daysNow_20
  refine Exists.elim (lp_any (b := fun q20 : (Int32 × ST) => B_X12_daysNow_20 q20.2.1 q20.2.2.1 q20.2.2.2 (nI S) x q20.1) (fun j s => s = (nI (1 + j), f, g, a) ∧ ∀ m, 1 ≤ m → m < 1 + j → KK W (2 ^ n) m S 1 = none ∧ ∀ code, code < 32 ^ m → ¬ VB W (2 ^ n) S m 0 0 code) (fun r => r = (fda (fd W (2 ^ n) S) x, f, g, a)) 3 ?_ ?_ (by omega) (1, f, g, a) ⟨rfl, fun m h1 h2 => absurd h1 (by omega)⟩) ?_
  rotate_left 2
  · rintro r ⟨w1, rfl⟩
    exact w1
  · rintro j hj s ⟨rfl, hno⟩
    have hb := brg (m := 1 + j) hN h0 hS0 hS hW2 (by omega) (by omega) (fun m' q1 q2 => (hno m' q1 q2).2)
    dsimp only
    unfold B_X12_daysNow_20
    rw [if_neg (show ¬ (3 : Int32) < nI (1 + j) from nI_nlt (a := 3) (by omega) (by omega))]
    cases e : KK W (2 ^ n) (1 + j) S 1 with
    | none =>
      left
      have hv : ∀ code, code < 32 ^ (1 + j) → ¬ VB W (2 ^ n) S (1 + j) 0 0 code := fun code hc z => KK_none _ _ _ e code hc ((hb code).mp z)
      refine ⟨_, dn28_a hn h1 hW (by omega) (by omega) hS0 hS x hv, rfl, fun m q1 q2 => ?_⟩
      by_cases z : m = 1 + j
      · rw [z]; exact ⟨e, hv⟩
      · exact hno m q1 (by omega)
    | some code =>
      right
      obtain ⟨k1, k2, k3⟩ := KK_some hN _ _ _ code e
      have hf := fd_some (show 1 ≤ 1 + j by omega) (by omega) (fun m' q1 q2 => (hno m' q1 q2).1) e
      refine ⟨_, dn28_b hn h1 hW (by omega) (by omega) hS0 hS x k1 ((hb code).mpr k2) (fun c' hc' z => k3 c' hc' ((hb c').mp z)), ?_⟩
      rw [hf]
      rfl
  · rintro s ⟨rfl, hno⟩
    have hf := fd_none (fun m' q1 q2 => (hno m' q1 (by omega)).1)
    refine ⟨(-1, f, g, a), ?_, by rw [hf]; rfl⟩
    unfold B_X12_daysNow_20
    dsimp only
    rw [if_pos (show (3 : Int32) < nI (1 + 3) by decide)]
    rfl
theorem fd_b {W : Nat → Nat} {N S : Nat} {q : Nat × Nat} (hN : N ≤ 32) (h : fd W N S = some q) : 1 ≤ q.1 ∧ q.1 ≤ 3 ∧ q.2 < 32 ^ q.1 := by
  unfold fd at h
  cases e1 : KK W N 1 S 1 with
  | some c =>
    rw [e1] at h
    have h : some (1, c) = some q := h
    cases h
    exact ⟨Nat.le_of_ble_eq_true rfl, Nat.le_of_ble_eq_true rfl, (KK_some hN 1 _ _ c e1).1⟩
  | none =>
    rw [e1] at h
    dsimp only at h
    cases e2 : KK W N 2 S 1 with
    | some c =>
      rw [e2] at h
      have h : some (2, c) = some q := h
      cases h
      exact ⟨Nat.le_of_ble_eq_true rfl, Nat.le_of_ble_eq_true rfl, (KK_some hN 2 _ _ c e2).1⟩
    | none =>
      rw [e2] at h
      dsimp only at h
      cases e3 : KK W N 3 S 1 with
      | some c =>
        rw [e3] at h
        have h : some (3, c) = some q := h
        cases h
        exact ⟨Nat.le_of_ble_eq_true rfl, Nat.le_of_ble_eq_true rfl, (KK_some hN 3 _ _ c e3).1⟩
      | none =>
        rw [e3] at h
        have h : (none : Option (Nat × Nat)) = some q := h
        cases h
theorem s_days : st_days Rel := by
  intro k hk f g a f' g' a' x y h
  have h0 := h
  obtain ⟨n, hd, tw, mv, dy, pl, V, pg, hT, hX, hM, hB, hC, hG, hK⟩ := h
  have hn := hT.1
  rcases c_case (f := f) (f' := f') (g := g) (g' := g') (a := a) (a' := a') hT.1 hT.2.1 hT.2.2.1 x with ⟨z1, z2⟩ | ⟨S, hS, rfl, z1, z2⟩
  · refine ⟨-102, (f, g, a), (f', g', a'), ?_, ?_, Rel_mono _ _ _ h0⟩
    · unfold F_X11_days
      rw [if_pos z1]
    · unfold F_X12_days
      rw [if_pos z2]
  obtain ⟨p1, p2⟩ := pow5 hn
  have hS32 : S < 32 := by omega
  have h5 : f 5 = nI n := hT.2.1
  have h1' : f' 1 = nI n := hT.2.2.1
  have lx : LXv n V (upd f 3 (f 3 + 1)) a := Rel_lx (f := upd f 3 (f 3 + 1)) (f' := f') (a' := a') hT hX hB
  have lm : LMv n V (upd f' 13 (f' 13 + 1)) a' := Rel_lm (f := f) (f' := upd f' 13 (f' 13 + 1)) (a := a) hT hM hB
  obtain ⟨c1, c2, c3, c4, c5, c6, c7, c8, c9, c10, c11⟩ := hC
  have c8 : f 3 = nI dy := c8
  have c9 : f' 13 = nI dy := c9
  have hRel : dy < 40 → ∀ (f2 : Nat → Int32) (a2 b2 : Nat → Nat → Int32), (∀ t, t ≠ 3 → t ≠ 14 → f2 t = f t) → f2 3 = f 3 + 1 → (∀ t, t ≠ 26 → t ≠ 27 → a2 t = a t) → (∀ t, t ≠ 16 → b2 t = a' t) → Rel (k + 4) (f2, g, a2) (upd f' 13 (f' 13 + 1), g', b2) := by
    intro hdy f2 a2 b2 hf h3 ha hb
    refine ⟨n, hd, tw, mv, dy + 1, pl, V, pg, ?_, ?_, ?_, hB, ⟨by omega, ?_, c3, c4, ?_, c6, by omega, ?_, ?_, ?_, ?_⟩, ?_, ⟨hK.1, ?_⟩⟩
    · show RT n (f2 5) (f' 1) (a2 31) (b2 2) V
      rw [hf 5 (by decide) (by decide), ha 31 (by decide) (by decide), hb 2 (by decide)]
      exact hT
    · show PX n hd V (a2 14) (a2 15) (a2 16) (f2 6) (f2 7) (a2 17) (a2 18) (a2 19)
      rw [hf 6 (by decide) (by decide), hf 7 (by decide) (by decide), ha 14 (by decide) (by decide), ha 15 (by decide) (by decide), ha 16 (by decide) (by decide), ha 17 (by decide) (by decide), ha 18 (by decide) (by decide), ha 19 (by decide) (by decide)]
      exact hX
    · show PM n hd V (b2 3) (b2 4) (b2 5) (f' 8) (b2 9) (b2 10) (b2 11)
      rw [hb 3 (by decide), hb 4 (by decide), hb 5 (by decide), hb 9 (by decide), hb 10 (by decide), hb 11 (by decide)]
      exact hM
    · show f2 0 = nI tw
      rw [hf 0 (by decide) (by decide)]; exact c2
    · show f2 2 = nI mv
      rw [hf 2 (by decide) (by decide)]; exact c5
    · show f2 3 = nI (dy + 1)
      rw [h3, c8, nI_1]
    · show f' 13 + 1 = nI (dy + 1)
      rw [c9, nI_1]
    · show f2 8 = f' 6
      rw [hf 8 (by decide) (by decide)]; exact c10
    · show f2 9 = f' 7
      rw [hf 9 (by decide) (by decide)]; exact c11
    · show RG pl (f2 4) (f' 14) (a2 13) (b2 15) pg
      rw [hf 4 (by decide) (by decide), ha 13 (by decide) (by decide), hb 15 (by decide)]
      exact hG
    · have hK2 := hK.2
      show (f2 1 = 0 ∧ f' 19 = 0) ∨ ∃ kt, 1 ≤ kt ∧ kt ≤ tw ∧ f2 1 = nI kt ∧ f' 19 = 1 ∧ f' 20 = nI kt ∧ (kt = tw → ∃ (hk : Nat) (VK : Nat → Nat → Nat), PX n hk VK (a2 20) (a2 21) (a2 22) (f2 10) (f2 11) (a2 23) (a2 24) (a2 25) ∧ PM n hk VK (b2 24) (b2 25) (b2 26) (f' 23) (b2 27) (b2 28) (b2 29) ∧ PB n hk VK ∧ f2 12 = f' 21 ∧ f2 13 = f' 22)
      rw [hf 1 (by decide) (by decide), hf 10 (by decide) (by decide), hf 11 (by decide) (by decide), hf 12 (by decide) (by decide), hf 13 (by decide) (by decide), ha 20 (by decide) (by decide), ha 21 (by decide) (by decide), ha 22 (by decide) (by decide), ha 23 (by decide) (by decide), ha 24 (by decide) (by decide), ha 25 (by decide) (by decide), hb 24 (by decide), hb 25 (by decide), hb 26 (by decide), hb 27 (by decide), hb 28 (by decide), hb 29 (by decide)]
      exact hK2
  have key : (y = 0 ∨ ∃ u, u ≤ 2 ∧ y = nI (10 + u)) → ∃ r : Int32, ∃ X2 : ST, ∃ M2 : ST, N_X11_days_33 f g a (nI S) y = some (r, X2) ∧ N_X12_days_26 f' g' a' (nI S) y = some (r, M2) ∧ Rel (k + 4) X2 M2 := by
    intro hy
    by_cases n0 : n = 0
    · refine ⟨-103, (f, g, a), (f', g', a'), ?_, ?_, Rel_mono _ _ _ h0⟩
      · unfold N_X11_days_33
        rw [if_pos (by rw [h5, n0]; rfl)]
      · unfold N_X12_days_26
        rw [if_pos (by rw [h1', n0]; rfl)]
    by_cases c40 : dy < 40
    · have eX : N_X11_days_33 f g a (nI S) y = (F_X7_planDays (upd f 3 (f 3 + 1)) g a (nI S)).bind fun r6 => if r6.1 = (-1) then some (r6.1, r6.2.1, r6.2.2.1, r6.2.2.2) else if y = 0 then some (r6.1, r6.2.1, r6.2.2.1, r6.2.2.2) else if r6.1 ≤ (y - (10 : Int32)) then some ((-1), r6.2.1, r6.2.2.1, r6.2.2.2) else some ((F_at 3 (r6.2.2.2 27) (y - (10 : Int32))), r6.2.1, r6.2.2.1, r6.2.2.2) := by
        unfold N_X11_days_33
        rw [if_neg (by rw [h5]; exact fun z => n0 ((nz (by omega)).mp z)), if_pos (by rw [c8]; exact nI_lt (b := 40) c40 (by omega))]
      have eM : N_X12_days_26 f' g' a' (nI S) y = (F_X12_daysNow (upd f' 13 (f' 13 + 1)) g' a' (nI S) y).bind fun r6 => some (r6.1, r6.2.1, r6.2.2.1, r6.2.2.2) := by
        unfold N_X12_days_26
        rw [if_neg (by rw [h1']; exact fun z => n0 ((nz (by omega)).mp z)), if_neg (by rw [c9]; exact fun z => by have := (nI_eq (b := 40) (by omega) (by omega)).mp z; omega)]
      have hy10 : ∀ u, nI (10 + u) - (10 : Int32) = nI u := fun u => by rw [show (10 : Int32) = nI 10 from rfl, pk_sub (by omega), show 10 + u - 10 = u by omega]
      by_cases s0 : S = 0
      · subst s0
        have hr := hRel c40 (upd f 3 (f 3 + 1)) a a' (fun t t1 _ => upd_n _ _ t1) (upd_s _ _ _) (fun t _ _ => rfl) (fun t _ => rfl)
        have e1 : F_X7_planDays (upd f 3 (f 3 + 1)) g a (nI 0) = some (0, upd f 3 (f 3 + 1), g, a) := by
          unfold F_X7_planDays
          rw [if_pos nI_0]
        have e2 : F_X12_daysNow (upd f' 13 (f' 13 + 1)) g' a' (nI 0) y = if y = 0 then some (0, upd f' 13 (f' 13 + 1), g', a') else some (-1, upd f' 13 (f' 13 + 1), g', a') := by
          unfold F_X12_daysNow
          rw [if_pos nI_0]
        rw [eX, eM, e1, e2]
        simp only [Option.bind_some]
        rw [if_neg (show ¬ (0 : Int32) = -1 by decide)]
        by_cases y0 : y = 0
        · rw [if_pos y0, if_pos y0]
          exact ⟨0, _, _, rfl, rfl, hr⟩
        · rcases hy with hy | ⟨u, hu, rfl⟩
          · exact absurd hy y0
          rw [if_neg y0, if_neg y0, hy10, if_pos (show (0 : Int32) ≤ nI u from nI_pos' (by omega))]
          exact ⟨-1, _, _, rfl, rfl, hr⟩
      · obtain ⟨a2, x1, x2, x3⟩ := pdX_eq (g := g) lx s0 hS32
        obtain ⟨b2, m1, m2, m3⟩ := layM_eq (g := g') lm
        have m4 := dn20_eq (W := wS V n) (n := n) (S := S) (f := upd f' 13 (f' 13 + 1)) (g := g') (a := b2) hn h1' m3 wS_0 (fun c _ => wS_lt hn) s0 hS32 y
        have e2 : F_X12_daysNow (upd f' 13 (f' 13 + 1)) g' a' (nI S) y = some (fda (fd (wS V n) (2 ^ n) S) y, upd f' 13 (f' 13 + 1), g', b2) := by
          unfold F_X12_daysNow
          rw [if_neg (fun z => s0 ((nz (by omega)).mp z)), m1]
          exact m4
        have hr := hRel c40 (upd (upd f 3 (f 3 + 1)) 14 (nI (2 ^ n))) a2 b2 (fun t t1 t2 => by rw [upd_n _ _ t2, upd_n _ _ t1]) (by rw [upd_n _ _ (by decide), upd_s]) x2 m2
        rw [eX, eM, x1, e2]
        simp only [Option.bind_some]
        cases e : fd (wS V n) (2 ^ n) S with
        | none =>
          rw [if_pos (show fdr none = -1 from rfl)]
          exact ⟨-1, _, _, rfl, rfl, hr⟩
        | some q =>
          obtain ⟨b1, b2', b3⟩ := fd_b p1 e
          have l32 := (p32 q.1 (by omega)).2
          have hne : ¬ fdr (some q) = -1 := fun z => by
            have z2 := nI_pos (n := q.1) (by omega)
            have z : nI q.1 = -1 := z
            rw [z] at z2
            exact z2 (by decide)
          rw [if_neg hne]
          by_cases y0 : y = 0
          · rw [if_pos y0]
            refine ⟨nI q.1, _, _, rfl, ?_, hr⟩
            show some (dan q.1 q.2 y, _) = _
            unfold dan
            rw [if_pos y0]
          · rcases hy with hy | ⟨u, hu, rfl⟩
            · exact absurd hy y0
            rw [if_neg y0, hy10]
            by_cases c : q.1 ≤ u
            · rw [if_pos (show fdr (some q) ≤ nI u from nI_le c (by omega))]
              refine ⟨-1, _, _, rfl, ?_, hr⟩
              show some (dan q.1 q.2 (nI (10 + u)), _) = _
              unfold dan
              rw [if_neg y0, hy10, if_pos (show nI q.1 ≤ nI u from nI_le c (by omega))]
            · rw [if_neg (show ¬ fdr (some q) ≤ nI u from nlt' (n := q.1) (by omega) (by omega)), at_in (show u < 3 by omega) (by omega), x3 q e u (by omega)]
              refine ⟨_, _, _, rfl, ?_, hr⟩
              show some (dan q.1 q.2 (nI (10 + u)), _) = _
              unfold dan
              rw [if_neg y0, hy10, if_neg (show ¬ nI q.1 ≤ nI u from nlt' (by omega) (by omega)), show nI q.1 - (1 : Int32) = nI (q.1 - 1) from pk_sub (b := 1) (by omega), pk_sub (by omega), dig_eq (by omega) (by omega)]
    · have : dy = 40 := by omega
      subst this
      refine ⟨-103, (f, g, a), (f', g', a'), ?_, ?_, Rel_mono _ _ _ h0⟩
      · unfold N_X11_days_33
        rw [if_neg (by rw [h5]; exact fun z => n0 ((nz (by omega)).mp z)), if_neg (by rw [c8]; decide)]
      · unfold N_X12_days_26
        rw [if_neg (by rw [h1']; exact fun z => n0 ((nz (by omega)).mp z)), if_pos (by rw [c9]; rfl)]
  by_cases y0 : y = 0
  · obtain ⟨r, X2, M2, w1, w2, w3⟩ := key (Or.inl y0)
    refine ⟨r, X2, M2, ?_, ?_, w3⟩
    · unfold F_X11_days
      rw [if_neg (by rw [z1]; decide), if_pos y0, w1]
    · unfold F_X12_days
      rw [if_neg (by rw [z2]; decide), if_pos y0, w2]
  rcases w_case y 10 12 (by omega) (by omega) with ⟨hw, hz⟩ | ⟨t, t1, t2, rfl, hz⟩
  · have hz : F_X12_within y 10 12 = 0 := hz
    refine ⟨-102, (f, g, a), (f', g', a'), ?_, ?_, Rel_mono _ _ _ h0⟩
    · unfold F_X11_days
      rw [if_neg (by rw [z1]; decide), if_neg y0]
      by_cases d1 : y < 10
      · rw [if_pos d1]
      · rw [if_neg d1, if_neg]
        rcases hw with hw | hw
        · exact absurd hw d1
        · exact m_gtL (b := 12) (by omega) hw
    · unfold F_X12_days
      rw [if_neg (by rw [z2]; decide), if_neg y0, if_pos hz]
  · have hz : F_X12_within (nI t) 10 12 = 1 := hz
    obtain ⟨r, X2, M2, w1, w2, w3⟩ := key (Or.inr ⟨t - 10, by omega, by rw [show 10 + (t - 10) = t by omega]⟩)
    refine ⟨r, X2, M2, ?_, ?_, w3⟩
    · unfold F_X11_days
      rw [if_neg (by rw [z1]; decide), if_neg y0, if_neg (show ¬ nI t < (10 : Int32) from nI_nlt (b := 10) (by omega) (by omega)), if_pos (show nI t < (13 : Int32) from nI_lt (b := 13) (by omega) (by omega)), w1]
    · unfold F_X12_days
      rw [if_neg (by rw [z2]; decide), if_neg y0, if_neg (by rw [hz]; decide), w2]
