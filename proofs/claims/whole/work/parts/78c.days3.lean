/-! ===== 78c: days, what is laid, what is found ===== -/
def fd (W : Nat → Nat) (N S : Nat) : Option (Nat × Nat) := match KK W N 1 S 1 with
  | some c => some (1, c)
  | none => match KK W N 2 S 1 with
    | some c => some (2, c)
    | none => match KK W N 3 S 1 with
      | some c => some (3, c)
      | none => none
theorem fd_some {W : Nat → Nat} {N S m c : Nat} (h1 : 1 ≤ m) (h3 : m ≤ 3) (hn : ∀ m', 1 ≤ m' → m' < m → KK W N m' S 1 = none) (hc : KK W N m S 1 = some c) : fd W N S = some (m, c) := by
  unfold fd
  rcases (show m = 1 ∨ m = 2 ∨ m = 3 by omega) with rfl | rfl | rfl
  · rw [hc]
  · rw [hn 1 (by omega) (by omega)]
    dsimp only
    rw [hc]
  · rw [hn 1 (by omega) (by omega)]
    dsimp only
    rw [hn 2 (by omega) (by omega)]
    dsimp only
    rw [hc]
theorem fd_none {W : Nat → Nat} {N S : Nat} (hn : ∀ m', 1 ≤ m' → m' < 4 → KK W N m' S 1 = none) : fd W N S = none := by
  unfold fd
  rw [hn 1 (by omega) (by omega)]
  dsimp only
  rw [hn 2 (by omega) (by omega)]
  dsimp only
  rw [hn 3 (by omega) (by omega)]
def fdr (o : Option (Nat × Nat)) : Int32 := match o with
  | none => -1
  | some q => nI q.1
theorem LX_tr {n : Nat} {V : Nat → Nat → Nat} {f f2 : Nat → Int32} {a a2 : Nat → Nat → Int32} (h : LXv n V f a) (h5 : f2 5 = f 5) (h31 : a2 31 = a 31) (h16 : a2 16 = a 16) (h14 : a2 14 = a 14) (h15 : a2 15 = a 15) : LXv n V f2 a2 := by
  obtain ⟨⟨q1, q2, q3⟩, q4⟩ := h
  unfold LXv CX
  rw [h5, h31, h16, h14, h15]
  exact ⟨⟨q1, q2, q3⟩, q4⟩
theorem LM_tr {n : Nat} {V : Nat → Nat → Nat} {f f2 : Nat → Int32} {a a2 : Nat → Nat → Int32} (h : LMv n V f a) (h1 : f2 1 = f 1) (h2 : a2 2 = a 2) (h5 : a2 5 = a 5) (h3 : a2 3 = a 3) (h4 : a2 4 = a 4) : LMv n V f2 a2 := by
  obtain ⟨⟨q1, q2, q3⟩, q4⟩ := h
  unfold LMv CM
  rw [h1, h2, h5, h3, h4]
  exact ⟨⟨q1, q2, q3⟩, q4⟩
theorem wS_lt {V : Nat → Nat → Nat} {n c : Nat} (hn : n ≤ 5) : wS V n c < 32 := cset_32 hn (Nat.le_refl n)
theorem wS_0 {V : Nat → Nat → Nat} {n : Nat} : wS V n 0 = 0 := by
  unfold wS
  have : ∀ m, cset (fun p => (0 : Nat).testBit p && wv V p 0) m = 0 := by
    intro m
    induction m with
    | zero => rfl
    | succ m ih =>
      rw [show cset (fun p => (0 : Nat).testBit p && wv V p 0) (m + 1) = cset (fun p => (0 : Nat).testBit p && wv V p 0) m ||| (if ((0 : Nat).testBit m && wv V m 0) = true then 2 ^ m else 0) from rfl, ih, Nat.zero_testBit, Bool.false_and, if_neg (by decide)]
      rfl
  exact this n
theorem pd48_eq {W : Nat → Nat} {N S : Nat} (hN : N ≤ 32) (hN1 : 1 ≤ N) (hS : S < 32) (hW : ∀ c, c < N → W c < 32) {f : Nat → Int32} {g : Nat → Int64} {a : Nat → Nat → Int32} (h14 : f 14 = nI N) (ha : ∀ c, c < N → a 26 c = nI (W c)) : ∃ a2, N_X7_planDays_48 f g a (nI S) 1 = some (fdr (fd W N S), f, g, a2) ∧ (∀ t, t ≠ 27 → a2 t = a t) ∧ ∀ q, fd W N S = some q → ∀ i, i < q.1 → a2 27 i = nI (q.2 / 32 ^ (q.1 - 1 - i) % 32) := by
  unfold N_X7_planDays_48
  refine Exists.elim (lp_any (b := fun q48 : (Int32 × ST) => B_X7_planDays_48 q48.2.1 q48.2.2.1 q48.2.2.2 (nI S) q48.1) (fun j s => s = (nI (1 + j), f, g, a) ∧ ∀ m, 1 ≤ m → m < 1 + j → KK W N m S 1 = none) (fun r => ∃ a2, r = (fdr (fd W N S), f, g, a2) ∧ (∀ t, t ≠ 27 → a2 t = a t) ∧ ∀ q, fd W N S = some q → ∀ i, i < q.1 → a2 27 i = nI (q.2 / 32 ^ (q.1 - 1 - i) % 32)) 3 ?_ ?_ (by omega) (1, f, g, a) ⟨rfl, fun m h1 h2 => absurd h1 (by omega)⟩) ?_
  rotate_left 2
  · rintro r ⟨w1, a2, rfl, w2⟩
    exact ⟨a2, w1, w2⟩
  · rintro j hj s ⟨rfl, hno⟩
    have ih := cvr_0 hN hW (g := g) h14 (1 + j) (by omega) S 1 a hS hN1 ha
    rw [Nat.zero_add] at ih
    dsimp only
    unfold B_X7_planDays_48
    rw [if_neg (show ¬ (3 : Int32) < nI (1 + j) from nI_nlt (a := 3) (by omega) (by omega)), nI_1]
    rcases ih with ⟨i1, i2⟩ | ⟨code, a2, i1, i2, i3, i4⟩
    · left
      refine ⟨(nI (1 + j + 1), f, g, a), ?_, rfl, ?_⟩
      · rw [show (1 : Int32) = nI 1 from rfl, i2]
        rfl
      · intro m h1 h2
        by_cases z : m = 1 + j
        · rw [z]; exact i1
        · exact hno m h1 (by omega)
    · right
      have hf := fd_some (show 1 ≤ 1 + j by omega) (by omega) hno i1
      refine ⟨(nI (1 + j), f, g, a2), ?_, a2, by rw [hf]; rfl, i3, ?_⟩
      · rw [show (1 : Int32) = nI 1 from rfl, i2]
        rfl
      · intro q hq i hi
        rw [hf] at hq
        cases hq
        have := i4 i hi
        rwa [Nat.zero_add] at this
  · rintro s ⟨rfl, hno⟩
    have hf := fd_none (fun m' h1 h2 => hno m' h1 (by omega))
    refine ⟨(-1, f, g, a), ?_, a, by rw [hf]; rfl, fun t _ => rfl, fun q hq => by rw [hf] at hq; cases hq⟩
    unfold B_X7_planDays_48
    dsimp only
    rw [if_pos (show (3 : Int32) < nI (1 + 3) by decide)]
    rfl
theorem pdX_eq {V : Nat → Nat → Nat} {n S : Nat} {f : Nat → Int32} {g : Nat → Int64} {a : Nat → Nat → Int32} (h : LXv n V f a) (hS0 : S ≠ 0) (hS : S < 32) : ∃ a2, F_X7_planDays f g a (nI S) = some (fdr (fd (wS V n) (2 ^ n) S), upd f 14 (nI (2 ^ n)), g, a2) ∧ (∀ t, t ≠ 26 → t ≠ 27 → a2 t = a t) ∧ ∀ q, fd (wS V n) (2 ^ n) S = some q → ∀ i, i < q.1 → a2 27 i = nI (q.2 / 32 ^ (q.1 - 1 - i) % 32) := by
  have hn := h.1.1
  have h5 := h.1.2.1
  obtain ⟨p1, p2⟩ := pow5 hn
  unfold F_X7_planDays N_X7_planDays_18
  rw [if_neg (fun z => hS0 ((nz (by omega)).mp z)), h5, m_shl1 (by omega)]
  refine Exists.elim (lp_inv (b := fun q18 : (Int32 × ST) => B_X7_planDays_18 q18.2.1 q18.2.2.1 q18.2.2.2 (nI S) q18.1) (fun j s => ∃ aj, s = (nI j, upd f 14 (nI (2 ^ n)), g, aj) ∧ (∀ t, t ≠ 26 → aj t = a t) ∧ ∀ i, i < j → aj 26 i = nI (wS V n i)) (fun r => ∃ a2, r = (fdr (fd (wS V n) (2 ^ n) S), upd f 14 (nI (2 ^ n)), g, a2) ∧ (∀ t, t ≠ 26 → t ≠ 27 → a2 t = a t) ∧ ∀ q, fd (wS V n) (2 ^ n) S = some q → ∀ i, i < q.1 → a2 27 i = nI (q.2 / 32 ^ (q.1 - 1 - i) % 32)) (2 ^ n) ?_ ?_ (by omega) (0, upd f 14 (nI (2 ^ n)), g, a) ⟨a, rfl, fun t _ => rfl, fun i hi => absurd hi (by omega)⟩) ?_
  rotate_left 2
  · rintro r ⟨w1, a2, rfl, w2⟩
    exact ⟨a2, w1, w2⟩
  · rintro j hj s ⟨aj, rfl, w1, w2⟩
    have lx : LXv n V (upd f 14 (nI (2 ^ n))) aj := LX_tr h rfl (w1 31 (by decide)) (w1 16 (by decide)) (w1 14 (by decide)) (w1 15 (by decide))
    refine ⟨(nI (j + 1), upd f 14 (nI (2 ^ n)), g, us aj 26 (upd (aj 26) j (nI (wS V n j)))), ?_, _, rfl, fun t ht => by rw [us_n _ _ ht, w1 t ht], ?_⟩
    · unfold B_X7_planDays_18
      dsimp only
      rw [if_neg (by rw [upd_s]; exact nlt' hj (by omega)), who_eq lx (by omega), nI_1]
      simp only [Option.bind_some]
      rw [put_in (show j < 32 by omega) (by omega)]
    · exact ad_up (w := fun i => nI (wS V n i)) w2 rfl
  · rintro s ⟨aj, rfl, w1, w2⟩
    obtain ⟨a2, v1, v2, v3⟩ := pd48_eq (W := wS V n) (S := S) p1 p2 hS (fun c _ => wS_lt hn) (f := upd f 14 (nI (2 ^ n))) (g := g) (a := aj) (upd_s _ _ _) w2
    refine ⟨_, ?_, a2, rfl, fun t t1 t2 => by rw [v2 t t2, w1 t t1], v3⟩
    unfold B_X7_planDays_18
    dsimp only
    rw [if_pos (by rw [upd_s]; exact nI_le (Nat.le_refl _) (by omega)), v1]
    rfl
theorem layM_eq {V : Nat → Nat → Nat} {n : Nat} {f : Nat → Int32} {g : Nat → Int64} {a : Nat → Nat → Int32} (h : LMv n V f a) : ∃ a2, F_X12_layWritten f g a = some (f, g, a2) ∧ (∀ t, t ≠ 16 → a2 t = a t) ∧ ∀ i, i < 2 ^ n → a2 16 i = nI (wS V n i) := by
  have hn := h.1.1
  have h1 := h.1.2.1
  obtain ⟨p1, p2⟩ := pow5 hn
  unfold F_X12_layWritten N_X12_layWritten_2
  refine Exists.elim (lp_inv (b := fun q2 : (Int32 × ST) => B_X12_layWritten_2 q2.2.1 q2.2.2.1 q2.2.2.2 q2.1) (fun j s => ∃ aj, s = (nI j, f, g, aj) ∧ (∀ t, t ≠ 16 → aj t = a t) ∧ ∀ i, i < j → aj 16 i = nI (wS V n i)) (fun r => ∃ a2, r = (f, g, a2) ∧ (∀ t, t ≠ 16 → a2 t = a t) ∧ ∀ i, i < 2 ^ n → a2 16 i = nI (wS V n i)) (2 ^ n) ?_ ?_ (by omega) (0, f, g, a) ⟨a, rfl, fun t _ => rfl, fun i hi => absurd hi (by omega)⟩) ?_
  rotate_left 2
  · rintro r ⟨w1, a2, rfl, w2⟩
    exact ⟨a2, w1, w2⟩
  · rintro j hj s ⟨aj, rfl, w1, w2⟩
    have hin : ∃ r, N_X12_layWritten_21 f g (ua aj 16 j 0) (nI j) 0 = some r ∧ ∃ ak, r = .inl (nI (j + 1), f, g, ak) ∧ (∀ t, t ≠ 16 → ak t = a t) ∧ (∀ i, i < j + 1 → ak 16 i = nI (wS V n i)) := by
      unfold N_X12_layWritten_21
      refine lp_inv (b := fun q21 : (Int32 × ST) => B_X12_layWritten_21 q21.2.1 q21.2.2.1 q21.2.2.2 (nI j) q21.1) (fun p s => ∃ ak, s = (nI p, f, g, ak) ∧ (∀ t, t ≠ 16 → ak t = a t) ∧ (∀ i, i < j → ak 16 i = nI (wS V n i)) ∧ ak 16 j = nI (cset (fun p => j.testBit p && wv V p j) p)) (fun r => ∃ ak, r = .inl (nI (j + 1), f, g, ak) ∧ (∀ t, t ≠ 16 → ak t = a t) ∧ (∀ i, i < j + 1 → ak 16 i = nI (wS V n i))) n ?_ ?_ (by omega) (0, f, g, ua aj 16 j 0) ⟨_, rfl, fun t ht => by rw [ua_n _ _ _ ht, w1 t ht], fun i hi => ?_, ?_⟩
      · rintro p hp s ⟨ak, rfl, k1, k2, k3⟩
        have lm : LMv n V f ak := LM_tr h rfl (k1 2 (by decide)) (k1 5 (by decide)) (k1 3 (by decide)) (k1 4 (by decide))
        refine ⟨(nI (p + 1), f, g, ua ak 16 j (nI (cset (fun p => j.testBit p && wv V p j) (p + 1)))), ?_, _, rfl, fun t ht => by rw [ua_n _ _ _ ht, k1 t ht], fun i hi => ?_, ?_⟩
        · unfold B_X12_layWritten_21 N_X12_layWritten_59 N_X12_layWritten_60
          dsimp only
          rw [if_neg (by rw [h1]; exact nlt' hp (by omega)), gd_t (inB_nI (show j < 32 by omega) (by omega)), nI_clamp (by omega), isIn_eq (by omega) (by omega), isw_eq lm hp (by omega), gd_t (inB_nI (show j < 32 by omega) (by omega)), gd_t (inB_nI (show j < 32 by omega) (by omega)), k3, m_shl1 (by omega), m_or, nI_1, show (0 : Int32) = nI 0 from rfl, m_or]
          simp only [Option.bind_some]
          rw [show cset (fun p => j.testBit p && wv V p j) (p + 1) = cset (fun p => j.testBit p && wv V p j) p ||| (if (j.testBit p && wv V p j) = true then 2 ^ p else 0) from rfl]
          cases q1 : j.testBit p <;> cases q2 : wv V p j <;> rfl
        · show upd (ak 16) j _ i = _
          rw [upd_n _ _ (by omega), k2 i hi]
        · show upd (ak 16) j _ j = _
          rw [upd_s]
      · rintro s ⟨ak, rfl, k1, k2, k3⟩
        refine ⟨_, ?_, ak, rfl, k1, fun i hi => ?_⟩
        · unfold B_X12_layWritten_21
          dsimp only
          rw [if_pos (by rw [h1]; exact nI_le (Nat.le_refl _) (by omega)), nI_1]
          rfl
        · by_cases c : i = j
          · rw [c, k3]; rfl
          · exact k2 i (by omega)
      · show upd (aj 16) j _ i = _
        rw [upd_n _ _ (by omega), w2 i hi]
      · show upd (aj 16) j _ j = _
        rw [upd_s]
        rfl
    obtain ⟨r, r1, ak, rfl, r2, r3⟩ := hin
    refine ⟨_, ?_, ak, rfl, r2, r3⟩
    unfold B_X12_layWritten_2
    dsimp only
    rw [if_neg (by rw [h1, m_shl1 (by omega)]; exact nlt' hj (by omega)), gd_t (inB_nI (show j < 32 by omega) (by omega)), nI_clamp (by omega), r1]
  · rintro s ⟨aj, rfl, w1, w2⟩
    refine ⟨_, ?_, aj, rfl, w1, w2⟩
    unfold B_X12_layWritten_2
    dsimp only
    rw [if_pos (by rw [h1, m_shl1 (by omega)]; exact nI_le (Nat.le_refl _) (by omega))]
    rfl
