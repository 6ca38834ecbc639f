/-! ===== 77: moves ===== -/
def rc (n i q : Nat) : Nat := i / 4 ^ (n - 1 - q) % 4
theorem rc_lt (n i q : Nat) : rc n i q < 4 := Nat.mod_lt _ (by decide)
theorem enc_rc {n i : Nat} (hn : n ≤ 5) (hi : i < 4 ^ n) : enc (rc n i) n = i * 2 ^ (2 * (5 - n)) := by
  rcases (show n = 0 ∨ n = 1 ∨ n = 2 ∨ n = 3 ∨ n = 4 ∨ n = 5 by omega) with rfl | rfl | rfl | rfl | rfl | rfl <;>
    simp only [enc, rc, Nat.zero_add, Nat.reduceSub, Nat.reducePow, Nat.reduceAdd, Nat.reduceMul, Nat.div_one, Nat.mul_one] at hi ⊢ <;> omega
theorem p4 {n : Nat} (hn : n ≤ 5) : 2 ^ (2 * n) = 4 ^ n ∧ 4 ^ n ≤ 1024 := by
  rcases (show n = 0 ∨ n = 1 ∨ n = 2 ∨ n = 3 ∨ n = 4 ∨ n = 5 by omega) with rfl | rfl | rfl | rfl | rfl | rfl <;> decide
theorem shl_rc {n i : Nat} (hn : n ≤ 5) (hi : i < 4 ^ n) : nI i <<< ((2 : Int32) * ((5 : Int32) - nI n) &&& 31) = nI (enc (rc n i) n) := by
  have e1 : (2 : Int32) * ((5 : Int32) - nI n) = nI (2 * (5 - n)) := by
    rw [show (5 : Int32) = nI 5 from rfl, pk_sub (by omega), show (2 : Int32) = nI 2 from rfl, pk_mul]
  have h1 := enc_lt hn (fun j _ => rc_lt n i j)
  have h2 := enc_rc hn hi
  rw [e1, m_shl (by omega) (by omega), ← h2]
theorem roomBy_eq {n i q : Nat} {f : Nat → Int32} {g : Nat → Int64} {a : Nat → Nat → Int32} (hn : n ≤ 5) (h1 : f 1 = nI n) (hi : i < 1024) (hq : q < n) : F_X12_roomBy f g a (nI i) (nI q) = nI (rc n i q) := by
  unfold F_X12_roomBy
  have e : (2 : Int32) * (nI n - (1 : Int32) - nI q) = nI (2 * (n - 1 - q)) := by
    rw [show nI n - (1 : Int32) = nI (n - 1) from pk_sub (b := 1) (by omega), pk_sub (by omega), show (2 : Int32) = nI 2 from rfl, pk_mul]
  have e4 : 2 ^ (2 * (n - 1 - q)) = 4 ^ (n - 1 - q) := (p4 (by omega)).1
  rw [h1, e, m_shr (by omega) (by omega), m_a3, e4]
  rfl
def dg (x q : Nat) : Bool := decide (x / 4 ^ (4 - q) % 4 ≠ 0)
theorem dif_x : ∀ x, x < 1024 → F_J6_bitCount_0f7a4 ((nI x ||| (nI x >>> ((1 : Int32) &&& 31))) &&& (341 : Int32)) = nI (cnt (dg x) 5) := by decide +kernel
theorem xor_dg (x y q : Nat) : dg (x ^^^ y) q = decide (x / 4 ^ (4 - q) % 4 ≠ y / 4 ^ (4 - q) % 4) := by
  unfold dg
  have e : (4 : Nat) ^ (4 - q) = 2 ^ (2 * (4 - q)) := by rw [Nat.pow_mul]
  have h : (x ^^^ y) / 4 ^ (4 - q) % 4 = (x / 4 ^ (4 - q) % 4) ^^^ (y / 4 ^ (4 - q) % 4) := by
    rw [e, ← Nat.shiftRight_eq_div_pow, ← Nat.shiftRight_eq_div_pow, ← Nat.shiftRight_eq_div_pow, Nat.shiftRight_xor_distrib, show (4 : Nat) = 2 ^ 2 from rfl, Nat.xor_mod_two_pow]
  rw [h]
  have a1 : x / 4 ^ (4 - q) % 4 < 4 := Nat.mod_lt _ (by decide)
  have a2 : y / 4 ^ (4 - q) % 4 < 4 := Nat.mod_lt _ (by decide)
  generalize x / 4 ^ (4 - q) % 4 = u at a1
  generalize y / 4 ^ (4 - q) % 4 = v at a2
  have : ∀ u, u < 4 → ∀ v, v < 4 → decide (u ^^^ v ≠ 0) = decide (u ≠ v) := by decide
  exact this u a1 v a2
theorem cnt_cg {S T : Nat → Bool} : ∀ n, (∀ i, i < n → S i = T i) → cnt S n = cnt T n
  | 0, _ => rfl
  | n + 1, h => by
    rw [cnt_s, cnt_s, cnt_cg n (fun i hi => h i (by omega)), h n (by omega)]
theorem cnt_ext {S : Nat → Bool} {n : Nat} : ∀ d, (∀ i, n ≤ i → i < n + d → S i = false) → cnt S (n + d) = cnt S n
  | 0, _ => rfl
  | d + 1, h => by
    rw [show n + (d + 1) = n + d + 1 by omega, cnt_s, cnt_ext d (fun i h1 h2 => h i h1 (by omega)), h (n + d) (by omega) (by omega)]
    rfl
def dff (n : Nat) (r r' : Nat → Nat) : Nat := cnt (fun q => decide (r q ≠ r' q)) n
theorem dif_eq {n : Nat} {r r' : Nat → Nat} (hn : n ≤ 5) (h1 : ∀ j, j < n → r j < 4) (h2 : ∀ j, j < n → r' j < 4) : F_X7_howManyDiffer (nI (enc r n)) (nI (enc r' n)) = nI (dff n r r') := by
  have l1 := enc_lt hn h1
  have l2 := enc_lt hn h2
  have l3 : enc r n ^^^ enc r' n < 1024 := Nat.xor_lt_two_pow (n := 10) l1 l2
  unfold F_X7_howManyDiffer dff
  rw [m_xor, dif_x _ l3]
  congr 1
  obtain ⟨d, hd⟩ : ∃ d, 5 = n + d := ⟨5 - n, by omega⟩
  rw [hd, cnt_ext d (fun i a1 a2 => ?_)]
  · refine cnt_cg n (fun i hi => ?_)
    rw [xor_dg, enc_at hn (by omega) h1, enc_at hn (by omega) h2, if_pos hi, if_pos hi]
  · rw [xor_dg, enc_at hn (by omega) h1, enc_at hn (by omega) h2, if_neg (by omega), if_neg (by omega)]
    rfl
theorem dff_le (n : Nat) (r r' : Nat → Nat) : dff n r r' ≤ n := cnt_le _ n
theorem mvB_eq {n i : Nat} {V : Nat → Nat → Nat} {f : Nat → Int32} {g : Nat → Int64} {a : Nat → Nat → Int32} (h : LMv n V f a) (hi : i < 1024) : F_X12_movesBy f g a (nI i) = some (nI (dff n (rc n i) (V 3))) := by
  obtain ⟨hC, hv⟩ := h
  have hn := hC.1
  have h1 := hC.2.1
  unfold F_X12_movesBy N_X12_movesBy_4
  refine lp_all (fun j => (nI (cnt (fun q => decide (rc n i q ≠ V 3 q)) j), nI j)) n _ _ rfl ?_ ?_ (by omega)
  · intro j hj
    obtain ⟨_, _, _, _, j5, j6⟩ := hv j hj
    have := rc_lt n i j
    unfold B_X12_movesBy_4 N_X12_movesBy_33
    dsimp only
    rw [if_neg (by rw [h1]; exact nlt' hj (by omega)), gd_t (inB_nI (show j < 5 by omega) (by omega)), nI_clamp (by omega), roomBy_eq hn h1 hi hj, j5, nI_1, cnt_s]
    by_cases q : rc n i j = V 3 j
    · rw [if_pos (by rw [q]), decide_eq_false (fun z => z q)]
      exact congrArg (fun z => some (Sum.inl (z, nI (j + 1)))) (nI_add _ 0)
    · rw [if_neg (fun z => q ((nI_eq (by omega) (by omega)).mp z)), decide_eq_true q]
      exact congrArg (fun z => some (Sum.inl (z, nI (j + 1)))) (nI_1 _)
  · unfold B_X12_movesBy_4
    dsimp only
    rw [if_pos (by rw [h1]; exact nI_le (Nat.le_refl _) (by omega))]
    rfl
theorem iwi_eq {n i p : Nat} {V : Nat → Nat → Nat} {f : Nat → Int32} {g : Nat → Int64} {a : Nat → Nat → Int32} (h : LMv n V f a) (hi : i < 1024) (hp : p < n) : F_X12_isWrittenIf f g a (nI p) (nI i) = some (bi (wv V p (cset (sameR (rc n i) p) n))) := by
  have hl := h
  obtain ⟨hC, hv⟩ := h
  have hn := hC.1
  have h1 := hC.2.1
  unfold F_X12_isWrittenIf N_X12_isWrittenIf_5
  refine lp_all (fun j => (nI (cset (sameR (rc n i) p) j), nI j)) n _ _ rfl ?_ ?_ (by omega)
  · intro j hj
    have l1 := rc_lt n i j
    have l2 := rc_lt n i p
    unfold B_X12_isWrittenIf_5 N_X12_isWrittenIf_39
    dsimp only
    rw [if_neg (by rw [h1]; exact nlt' hj (by omega)), roomBy_eq hn h1 hi hj, roomBy_eq hn h1 hi hp, m_shl1 (by omega), m_or, nI_1, show (0 : Int32) = nI 0 from rfl, m_or]
    by_cases q : rc n i j = rc n i p
    · rw [if_pos (by rw [q])]
      have : sameR (rc n i) p j = true := decide_eq_true q
      simp only [cset, this, if_true]
    · rw [if_neg (fun z => q ((nI_eq (by omega) (by omega)).mp z))]
      have : sameR (rc n i) p j = false := decide_eq_false q
      simp [cset, this]
  · unfold B_X12_isWrittenIf_5
    dsimp only
    rw [if_pos (by rw [h1]; exact nI_le (Nat.le_refl n) (by omega)), isw_eq hl hp (cset_32 hn (Nat.le_refl n))]
    rfl
def mW (V : Nat → Nat → Nat) (n p i : Nat) : Bool := wv V p (cset (sameR (rc n i) p) n)
def ms (V : Nat → Nat → Nat) (n p : Nat) : Nat → Option (Nat × Nat)
  | 0 => none
  | i + 1 => match ms V n p i with
    | none => if mW V n p i then some (i, dff n (rc n i) (V 3)) else none
    | some q => if q.2 ≤ dff n (rc n i) (V 3) then some q else if mW V n p i then some (i, dff n (rc n i) (V 3)) else some q
theorem ms_s (V : Nat → Nat → Nat) (n p i : Nat) : ms V n p (i + 1) = match ms V n p i with
    | none => if mW V n p i then some (i, dff n (rc n i) (V 3)) else none
    | some q => if q.2 ≤ dff n (rc n i) (V 3) then some q else if mW V n p i then some (i, dff n (rc n i) (V 3)) else some q := rfl
theorem ms_b {V : Nat → Nat → Nat} {n p : Nat} : ∀ i q, ms V n p i = some q → q.1 < i ∧ q.2 ≤ n
  | 0, q, h => by cases h
  | i + 1, q, h => by
    rw [ms_s] at h
    have hd := dff_le n (rc n i) (V 3)
    cases e : ms V n p i with
    | none =>
      rw [e] at h
      cases w : mW V n p i with
      | true => simp only [w, if_true] at h; cases h; exact ⟨by omega, hd⟩
      | false => simp [w] at h
    | some q' =>
      obtain ⟨i1, i2⟩ := ms_b i q' e
      rw [e] at h
      by_cases c : q'.2 ≤ dff n (rc n i) (V 3)
      · simp only [if_pos c] at h; cases h; exact ⟨by omega, i2⟩
      · simp only [if_neg c] at h
        cases w : mW V n p i with
        | true => simp only [w, if_true] at h; cases h; exact ⟨by omega, hd⟩
        | false => simp [w] at h; cases h; exact ⟨by omega, i2⟩
theorem plan_eq {V : Nat → Nat → Nat} {n p : Nat} {f : Nat → Int32} {g : Nat → Int64} {a : Nat → Nat → Int32} (h : LXv n V f a) (hR : ∀ j, j < n → V 3 j < 4) (h6 : f 6 = nI (enc (V 3) n)) (hp : p < n) : ∃ f2, F_X7_planMoves f g a (nI p) = some ((match ms V n p (4 ^ n) with
    | none => -1
    | some q => nI q.2), f2, g, a) ∧ (∀ t, t ≠ 15 → f2 t = f t) ∧ ∀ q, ms V n p (4 ^ n) = some q → f2 15 = nI (enc (rc n q.1) n) := by
  have hn := h.1.1
  have h5 := h.1.2.1
  obtain ⟨q1, q2⟩ := p4 hn
  unfold F_X7_planMoves N_X7_planMoves_16
  rw [h5]
  refine Exists.elim (lp_inv (b := fun q16 : (Int32 × Int32 × ST) => B_X7_planMoves_16 q16.2.2.1 q16.2.2.2.1 q16.2.2.2.2 (nI p) ((2 : Int32) * ((5 : Int32) - nI n)) q16.1 q16.2.1) (fun i s => ∃ fi, s = ((bst (ms V n p i) 6).2, nI i, fi, g, a) ∧ (∀ t, t ≠ 15 → fi t = f t) ∧ ∀ q, ms V n p i = some q → fi 15 = nI (enc (rc n q.1) n)) (fun r => ∃ f2, r = ((match ms V n p (4 ^ n) with
    | none => -1
    | some q => nI q.2), f2, g, a) ∧ (∀ t, t ≠ 15 → f2 t = f t) ∧ ∀ q, ms V n p (4 ^ n) = some q → f2 15 = nI (enc (rc n q.1) n)) (4 ^ n) ?_ ?_ (by omega) (6, 0, f, g, a) ⟨f, rfl, fun t _ => rfl, fun q z => by cases z⟩) ?_
  rotate_left 2
  · rintro r ⟨w1, f2, rfl, w2⟩
    exact ⟨f2, w1, w2⟩
  · rintro i hi s ⟨fi, rfl, w1, w2⟩
    have e5 : fi 5 = nI n := by rw [w1 5 (by decide), h5]
    have e6 : fi 6 = nI (enc (V 3) n) := by rw [w1 6 (by decide), h6]
    have lx : LXv n V fi a := ⟨⟨hn, e5, h.1.2.2⟩, h.2⟩
    have hd := dff_le n (rc n i) (V 3)
    have hs : ∀ x, B_X7_planMoves_16 fi g a (nI p) ((2 : Int32) * ((5 : Int32) - nI n)) x (nI i) = if x ≤ nI (dff n (rc n i) (V 3)) then some (.inl (x, nI (i + 1), fi, g, a)) else if bi (mW V n p i) = 0 then some (.inl (x, nI (i + 1), fi, g, a)) else some (.inl (nI (dff n (rc n i) (V 3)), nI (i + 1), upd fi 15 (nI (enc (rc n i) n)), g, a)) := by
      intro x
      unfold B_X7_planMoves_16 N_X7_planMoves_81
      rw [if_neg (by rw [e5, show (2 : Int32) = nI 2 from rfl, pk_mul, m_shl1 (by omega), q1]; exact nlt' hi (by omega)), shl_rc hn hi, e6, dif_eq hn (fun j _ => rc_lt n i j) hR, ci_enc hn e5 (fun j _ => rc_lt n i j) hp, nI_1]
      simp only [Option.bind_some]
      rw [can_eq lx hp (cset_32 hn (Nat.le_refl n)), cset_self hp (decide_eq_true rfl), Bool.true_and]
      rfl
    have hs := hs ((bst (ms V n p i) 6).2)
    rw [ms_s]
    cases e : ms V n p i with
    | none =>
      rw [e] at hs w2
      rw [if_neg (show ¬ (bst none 6).2 ≤ nI (dff n (rc n i) (V 3)) from nlt' (n := 6) (by omega) (by omega))] at hs
      cases w : mW V n p i with
      | true =>
        rw [w, if_neg (by decide)] at hs
        refine ⟨_, hs, _, rfl, fun t ht => by rw [upd_n _ _ ht, w1 t ht], fun q z => ?_⟩
        cases z
        exact upd_s _ _ _
      | false =>
        rw [w, if_pos (by decide)] at hs
        exact ⟨_, hs, _, rfl, w1, fun q z => by cases z⟩
    | some q' =>
      obtain ⟨i1, i2⟩ := ms_b i q' e
      rw [e] at hs w2
      by_cases c : q'.2 ≤ dff n (rc n i) (V 3)
      · rw [if_pos (show (bst (some q') 6).2 ≤ nI (dff n (rc n i) (V 3)) from nI_le c (by omega))] at hs
        simp only [if_pos c]
        exact ⟨_, hs, _, rfl, w1, w2⟩
      · rw [if_neg (show ¬ (bst (some q') 6).2 ≤ nI (dff n (rc n i) (V 3)) from nlt' (by omega) (by omega))] at hs
        simp only [if_neg c]
        cases w : mW V n p i with
        | true =>
          rw [w, if_neg (by decide)] at hs
          refine ⟨_, hs, _, rfl, fun t ht => by rw [upd_n _ _ ht, w1 t ht], fun q z => ?_⟩
          cases z
          exact upd_s _ _ _
        | false =>
          rw [w, if_pos (by decide)] at hs
          exact ⟨_, hs, _, rfl, w1, w2⟩
  · rintro s ⟨fi, rfl, w1, w2⟩
    have e5 : fi 5 = nI n := by rw [w1 5 (by decide), h5]
    refine ⟨_, ?_, fi, rfl, w1, w2⟩
    unfold B_X7_planMoves_16
    dsimp only
    rw [if_pos (by rw [e5, show (2 : Int32) = nI 2 from rfl, pk_mul, m_shl1 (by omega), q1]; exact nI_le (Nat.le_refl _) (by omega))]
    cases e : ms V n p (4 ^ n) with
    | none => rfl
    | some q =>
      obtain ⟨i1, i2⟩ := ms_b _ q e
      show Option.map Sum.inr (if nI q.2 ≤ 5 then _ else _) = _
      rw [if_pos (show nI q.2 ≤ (5 : Int32) from nI_le (b := 5) (by omega) (by omega))]
      rfl
theorem mvN_eq {V : Nat → Nat → Nat} {n p : Nat} {f : Nat → Int32} {g : Nat → Int64} {a : Nat → Nat → Int32} (h : LMv n V f a) (hp : p < n) (x : Int32) : F_X12_movesNow f g a (nI p) x = (match ms V n p (4 ^ n) with
    | none => some (-1)
    | some q => if x = 0 then some (nI q.2) else if (F_X12_isOne f g a (x - (10 : Int32))) = 0 then some (-1) else some (F_X12_roomBy f g a (nI q.1) (x - (10 : Int32)))) := by
  have hn := h.1.1
  have h1 := h.1.2.1
  obtain ⟨q1, q2⟩ := p4 hn
  have hfin : ∃ r, B_X12_movesNow_9 f g a (nI p) x (bst (ms V n p (4 ^ n)) 268435456).1 (bst (ms V n p (4 ^ n)) 268435456).2 (nI (4 ^ n)) = some (.inr r) ∧ (match ms V n p (4 ^ n) with
    | none => some (-1)
    | some q => if x = 0 then some (nI q.2) else if (F_X12_isOne f g a (x - (10 : Int32))) = 0 then some (-1) else some (F_X12_roomBy f g a (nI q.1) (x - (10 : Int32)))) = some r := by
    unfold B_X12_movesNow_9
    rw [if_pos (by rw [h1, show (2 : Int32) = nI 2 from rfl, pk_mul, m_shl1 (by omega), q1]; exact nI_le (Nat.le_refl _) (by omega))]
    cases e : ms V n p (4 ^ n) with
    | none => exact ⟨-1, rfl, rfl⟩
    | some q =>
      obtain ⟨i1, i2⟩ := ms_b _ q e
      have hne : ¬ nI q.1 = -1 := fun z => by
        have z2 := nI_pos (n := q.1) (by omega)
        rw [z] at z2
        exact z2 (by decide)
      show ∃ r, Option.map Sum.inr (if nI q.1 = -1 then _ else if x = 0 then some (nI q.2) else _) = _ ∧ _
      rw [if_neg hne]
      by_cases c1 : x = 0
      · rw [if_pos c1]; exact ⟨_, rfl, by simp only [if_pos c1]⟩
      · rw [if_neg c1]
        by_cases c2 : F_X12_isOne f g a (x - (10 : Int32)) = 0
        · rw [if_pos c2]; exact ⟨_, rfl, by simp only [if_neg c1, if_pos c2]⟩
        · rw [if_neg c2]; exact ⟨_, rfl, by simp only [if_neg c1, if_neg c2]; rfl⟩
  obtain ⟨r, hr1, hr2⟩ := hfin
  rw [hr2]
  unfold F_X12_movesNow N_X12_movesNow_9
  refine lp_all (fun i => ((bst (ms V n p i) 268435456).1, (bst (ms V n p i) 268435456).2, nI i)) (4 ^ n) _ _ rfl ?_ hr1 (by omega)
  intro i hi
  have hd := dff_le n (rc n i) (V 3)
  have hs : ∀ y z, B_X12_movesNow_9 f g a (nI p) x y z (nI i) = if z ≤ nI (dff n (rc n i) (V 3)) then some (.inl (y, z, nI (i + 1))) else if bi (mW V n p i) = 0 then some (.inl (y, z, nI (i + 1))) else some (.inl (nI i, nI (dff n (rc n i) (V 3)), nI (i + 1))) := by
    intro y z
    unfold B_X12_movesNow_9 N_X12_movesNow_47 N_X12_movesNow_48 N_X12_movesNow_61 N_X12_movesNow_78
    rw [if_neg (by rw [h1, show (2 : Int32) = nI 2 from rfl, pk_mul, m_shl1 (by omega), q1]; exact nlt' hi (by omega)), mvB_eq h (by omega), iwi_eq h (by omega) hp, nI_1]
    rfl
  have hs := hs (bst (ms V n p i) 268435456).1 (bst (ms V n p i) 268435456).2
  refine hs.trans ?_
  rw [ms_s]
  cases e : ms V n p i with
  | none =>
    rw [if_neg (show ¬ (bst none 268435456).2 ≤ nI (dff n (rc n i) (V 3)) from nlt' (n := 268435456) (by omega) (by omega))]
    cases w : mW V n p i with
    | true => rw [if_neg (by decide)]; rfl
    | false => rw [if_pos (by decide)]; rfl
  | some q' =>
    obtain ⟨i1, i2⟩ := ms_b i q' e
    by_cases c : q'.2 ≤ dff n (rc n i) (V 3)
    · rw [if_pos (show (bst (some q') 268435456).2 ≤ nI (dff n (rc n i) (V 3)) from nI_le c (by omega))]
      simp only [if_pos c]
    · rw [if_neg (show ¬ (bst (some q') 268435456).2 ≤ nI (dff n (rc n i) (V 3)) from nlt' (by omega) (by omega))]
      simp only [if_neg c]
      cases w : mW V n p i with
      | true => rw [if_neg (by decide)]; rfl
      | false => rw [if_pos (by decide)]; rfl
theorem s_moves : st_moves Rel := by
  intro k hk f g a f' g' a' x y h
  have h0 := h
  obtain ⟨n, hd, tw, mv, dy, pl, V, pg, hT, hX, hM, hB, hC, hG, hK⟩ := h
  have hn := hT.1
  rcases p_case (f := f) (f' := f') (g := g) (g' := g') (a := a) (a' := a') hT.1 hT.2.1 hT.2.2.1 x with ⟨z1, z2⟩ | ⟨p, hp, rfl, z1, z2⟩
  · refine ⟨-101, (f, g, a), (f', g', a'), ?_, ?_, Rel_mono _ _ _ h0⟩
    · unfold F_X11_moves
      rw [if_pos z1]
    · unfold F_X12_moves
      rw [if_pos z2]
  have hR : ∀ j, j < n → V 3 j < 4 := fun j hj => (hB.2.1 j hj).2.2.2
  have lx : LXv n V (upd f 2 (f 2 + 1)) a := Rel_lx (f := upd f 2 (f 2 + 1)) (f' := f') (a' := a') hT hX hB
  have lm : LMv n V (upd f' 12 (f' 12 + 1)) a' := Rel_lm (f := f) (f' := upd f' 12 (f' 12 + 1)) (a := a) hT hM hB
  have e6 : (upd f 2 (f 2 + 1)) 6 = nI (enc (V 3) n) := hX.2.1
  obtain ⟨c1, c2, c3, c4, c5, c6, c7⟩ := hC
  have c5 : f 2 = nI mv := c5
  have c6 : f' 12 = nI mv := c6
  have key : (y = 0 ∨ ∃ u, u ≤ 4 ∧ y = nI (10 + u)) → ∃ r : Int32, ∃ X2 : ST, ∃ M2 : ST, N_X11_moves_33 f g a (nI p) y = some (r, X2) ∧ N_X12_moves_29 f' g' a' (nI p) y = some (r, M2) ∧ Rel (k + 4) X2 M2 := by
    intro hy
    by_cases c40 : mv < 40
    · obtain ⟨f2, p1, p2, p3⟩ := plan_eq (g := g) lx hR e6 hp
      have q1 := mvN_eq (g := g') lm hp y
      have hRel : Rel (k + 4) (f2, g, a) (upd f' 12 (f' 12 + 1), g', a') := by
        refine ⟨n, hd, tw, mv + 1, dy, pl, V, pg, ?_, ?_, hM, hB, ⟨by omega, ?_, c3, by omega, ?_, ?_, c7.1, ?_, c7.2.2.1, ?_, ?_⟩, ?_, ⟨hK.1, ?_⟩⟩
        · show RT n (f2 5) (f' 1) (a 31) (a' 2) V
          rw [p2 5 (by decide)]; exact hT
        · show PX n hd V (a 14) (a 15) (a 16) (f2 6) (f2 7) (a 17) (a 18) (a 19)
          rw [p2 6 (by decide), p2 7 (by decide)]; exact hX
        · show f2 0 = nI tw
          rw [p2 0 (by decide)]; exact c2
        · show f2 2 = nI (mv + 1)
          rw [p2 2 (by decide), upd_s, c5, nI_1]
        · show f' 12 + 1 = nI (mv + 1)
          rw [c6, nI_1]
        · show f2 3 = nI dy
          rw [p2 3 (by decide)]; exact c7.2.1
        · show f2 8 = f' 6
          rw [p2 8 (by decide)]; exact c7.2.2.2.1
        · show f2 9 = f' 7
          rw [p2 9 (by decide)]; exact c7.2.2.2.2
        · show RG pl (f2 4) (f' 14) (a 13) (a' 15) pg
          rw [p2 4 (by decide)]; exact hG
        · have hK2 := hK.2
          show (f2 1 = 0 ∧ f' 19 = 0) ∨ ∃ kt, 1 ≤ kt ∧ kt ≤ tw ∧ f2 1 = nI kt ∧ f' 19 = 1 ∧ f' 20 = nI kt ∧ (kt = tw → ∃ (hk : Nat) (VK : Nat → Nat → Nat), PX n hk VK (a 20) (a 21) (a 22) (f2 10) (f2 11) (a 23) (a 24) (a 25) ∧ PM n hk VK (a' 24) (a' 25) (a' 26) (f' 23) (a' 27) (a' 28) (a' 29) ∧ PB n hk VK ∧ f2 12 = f' 21 ∧ f2 13 = f' 22)
          rw [p2 1 (by decide), p2 10 (by decide), p2 11 (by decide), p2 12 (by decide), p2 13 (by decide)]
          exact hK2
      have eX : N_X11_moves_33 f g a (nI p) y = (F_X7_planMoves (upd f 2 (f 2 + 1)) g a (nI p)).bind fun r5 => if r5.1 = (-1) then some (r5.1, r5.2.1, r5.2.2.1, r5.2.2.2) else if y = 0 then some (r5.1, r5.2.1, r5.2.2.1, r5.2.2.2) else if (F_X9_has r5.2.1 r5.2.2.1 r5.2.2.2 (y - (10 : Int32))) = 0 then some ((-1), r5.2.1, r5.2.2.1, r5.2.2.2) else some ((F_X11_roomIn (r5.2.1 15) (y - (10 : Int32))), r5.2.1, r5.2.2.1, r5.2.2.2) := by
        unfold N_X11_moves_33
        rw [if_pos (by rw [c5]; exact nI_lt (b := 40) c40 (by omega))]
      have eM : N_X12_moves_29 f' g' a' (nI p) y = (F_X12_movesNow (upd f' 12 (f' 12 + 1)) g' a' (nI p) y).bind fun r5 => some (r5, (upd f' 12 (f' 12 + 1)), g', a') := by
        unfold N_X12_moves_29
        rw [if_neg (by rw [c6]; exact fun z => by have := (nI_eq (b := 40) (by omega) (by omega)).mp z; omega)]
      rw [eX, eM, p1, q1]
      simp only [Option.bind_some]
      cases e : ms V n p (4 ^ n) with
      | none => exact ⟨-1, _, _, by rw [if_pos rfl], rfl, hRel⟩
      | some q =>
        obtain ⟨i1, i2⟩ := ms_b _ q e
        have e15 := p3 q e
        have hne : ¬ nI q.2 = -1 := fun z => by
          have z2 := nI_pos (n := q.2) (by omega)
          rw [z] at z2
          exact z2 (by decide)
        have h4 := (p4 hn).2
        dsimp only
        rw [if_neg hne]
        by_cases y0 : y = 0
        · rw [if_pos y0, if_pos y0]
          exact ⟨_, _, _, rfl, rfl, hRel⟩
        rcases hy with hy | ⟨u, hu, rfl⟩
        · exact absurd hy y0
        rw [if_neg y0, if_neg y0, show nI (10 + u) - (10 : Int32) = nI u by rw [show (10 : Int32) = nI 10 from rfl, pk_sub (by omega), show 10 + u - 10 = u by omega]]
        have e5 : f2 5 = nI n := by rw [p2 5 (by decide)]; exact hT.2.1
        have e1 : (upd f' 12 (f' 12 + 1)) 1 = nI n := hT.2.2.1
        rcases p_case (f := f2) (f' := upd f' 12 (f' 12 + 1)) (g := g) (g' := g') (a := a) (a' := a') hn e5 e1 (nI u) with ⟨v1, v2⟩ | ⟨u', hu', eu, v1, v2⟩
        · rw [if_pos v1, if_pos v2]
          exact ⟨_, _, _, rfl, rfl, hRel⟩
        · have eu : u = u' := (nI_eq (by omega) (by omega)).mp eu
          subst eu
          rw [if_neg (by rw [v1]; decide), if_neg (by rw [v2]; decide), e15, roomIn_eq (by have := enc_lt hn (fun j _ => rc_lt n q.1 j); omega) (by omega), enc_at hn (by omega) (fun j _ => rc_lt n q.1 j), if_pos hu', roomBy_eq hn e1 (by omega) hu']
          exact ⟨_, _, _, rfl, rfl, hRel⟩
    · have : mv = 40 := by omega
      subst this
      refine ⟨-103, (f, g, a), (f', g', a'), ?_, ?_, Rel_mono _ _ _ h0⟩
      · unfold N_X11_moves_33
        rw [if_neg (by rw [c5]; decide)]
      · unfold N_X12_moves_29
        rw [if_pos (by rw [c6]; rfl)]
  by_cases y0 : y = 0
  · obtain ⟨r, X2, M2, w1, w2, w3⟩ := key (Or.inl y0)
    refine ⟨r, X2, M2, ?_, ?_, w3⟩
    · unfold F_X11_moves
      rw [if_neg (by rw [z1]; decide), if_pos y0, w1]
    · unfold F_X12_moves
      rw [if_neg (by rw [z2]; decide), if_pos y0, w2]
  rcases w_case y 10 14 (by omega) (by omega) with ⟨hw, hz⟩ | ⟨t, t1, t2, rfl, hz⟩
  · have hz : F_X12_within y 10 14 = 0 := hz
    refine ⟨-102, (f, g, a), (f', g', a'), ?_, ?_, Rel_mono _ _ _ h0⟩
    · unfold F_X11_moves
      rw [if_neg (by rw [z1]; decide), if_neg y0]
      by_cases d1 : y < 10
      · rw [if_pos d1]
      · rw [if_neg d1, if_neg]
        rcases hw with hw | hw
        · exact absurd hw d1
        · exact m_gtL (b := 14) (by omega) hw
    · unfold F_X12_moves
      rw [if_neg (by rw [z2]; decide), if_neg y0, if_pos hz]
  · have hz : F_X12_within (nI t) 10 14 = 1 := hz
    obtain ⟨r, X2, M2, w1, w2, w3⟩ := key (Or.inr ⟨t - 10, by omega, by rw [show 10 + (t - 10) = t by omega]⟩)
    refine ⟨r, X2, M2, ?_, ?_, w3⟩
    · unfold F_X11_moves
      rw [if_neg (by rw [z1]; decide), if_neg y0, if_neg (show ¬ nI t < (10 : Int32) from nI_nlt (b := 10) (by omega) (by omega)), if_pos (show nI t < (15 : Int32) from nI_lt (b := 15) (by omega) (by omega)), w1]
    · unfold F_X12_moves
      rw [if_neg (by rw [z2]; decide), if_neg y0, if_neg (by rw [hz]; decide), w2]
