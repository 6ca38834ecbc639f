/-! ===== 66: written, as, about, count ===== -/
def hN (V : Nat → Nat → Nat) (j : Nat) : Nat := if j % 2 = 0 then V 0 (j / 2) else V 1 (j / 2)
def lo (V : Nat → Nat → Nat) (p : Nat) : Nat → Nat
  | 0 => 0
  | i + 1 => if i = p then lo V p i else lo V p i + (if V 0 i = p then 1 else 0) + (if V 1 i = p then 1 else 0)
def lr (V : Nat → Nat → Nat) (p : Nat) : Nat → Nat
  | 0 => 0
  | j + 1 => lr V p j + (if hN V j = p ∧ j / 2 ≠ p then 1 else 0)
theorem lr_lo (V : Nat → Nat → Nat) (p : Nat) : ∀ i, lr V p (2 * i) = lo V p i
  | 0 => rfl
  | i + 1 => by
    rw [show 2 * (i + 1) = 2 * i + 1 + 1 by omega]
    have s1 : lr V p (2 * i + 1 + 1) = lr V p (2 * i) + (if hN V (2 * i) = p ∧ 2 * i / 2 ≠ p then 1 else 0) + (if hN V (2 * i + 1) = p ∧ (2 * i + 1) / 2 ≠ p then 1 else 0) := rfl
    have s2 : lo V p (i + 1) = if i = p then lo V p i else lo V p i + (if V 0 i = p then 1 else 0) + (if V 1 i = p then 1 else 0) := rfl
    rw [s1, s2, lr_lo V p i]
    have e1 : hN V (2 * i) = V 0 i := by unfold hN; rw [if_pos (by omega), show 2 * i / 2 = i by omega]
    have e2 : hN V (2 * i + 1) = V 1 i := by unfold hN; rw [if_neg (by omega), show (2 * i + 1) / 2 = i by omega]
    rw [e1, e2, show 2 * i / 2 = i by omega, show (2 * i + 1) / 2 = i by omega]
    by_cases q : i = p
    · rw [if_pos q, if_neg (fun z => z.2 q), if_neg (fun z => z.2 q)]
      omega
    · rw [if_neg q]
      by_cases q1 : V 0 i = p <;> by_cases q2 : V 1 i = p <;> simp [q1, q2, q]
theorem letX_eq {n p : Nat} {V : Nat → Nat → Nat} {f : Nat → Int32} {g : Nat → Int64} {a : Nat → Nat → Int32} (h : LXv n V f a) (hp : p < n) : F_X9_lettersOfOthers f g a (nI p) = some (nI (lo V p n)) := by
  have hn := h.1.1
  have h5 := h.1.2.1
  unfold F_X9_lettersOfOthers N_X9_lettersOfOthers_4
  refine lp_all (fun j => (nI (lo V p j), nI j)) n _ _ rfl ?_ ?_ (by omega)
  · intro j hj
    obtain ⟨v1, v2, v3, v4⟩ := h.2 j hj
    unfold B_X9_lettersOfOthers_4 N_X9_lettersOfOthers_38 N_X9_lettersOfOthers_61 N_X9_lettersOfOthers_63
    dsimp only
    rw [h5, if_neg (nlt' hj (by omega)), at_in (by omega) (by omega), at_in (by omega) (by omega), v1, v2, nI_1]
    have q0 : (nI j = nI p) ↔ j = p := nI_eq (by omega) (by omega)
    have q1 : (nI (V 0 j) = nI p) ↔ V 0 j = p := nI_eq (by omega) (by omega)
    have q2 : (nI (V 1 j) = nI p) ↔ V 1 j = p := nI_eq (by omega) (by omega)
    by_cases w0 : j = p
    · rw [if_pos (q0.mpr w0)]
      simp only [lo, if_pos w0]
    · rw [if_neg (fun z => w0 (q0.mp z))]
      simp only [lo, if_neg w0, q1, q2]
      by_cases w1 : V 0 j = p <;> by_cases w2 : V 1 j = p <;> simp [w1, w2, nI_1]
  · unfold B_X9_lettersOfOthers_4
    dsimp only
    rw [h5, if_pos (nI_le (Nat.le_refl n) (by omega))]
    rfl
theorem letM_eq {n p : Nat} {V : Nat → Nat → Nat} {f : Nat → Int32} {g : Nat → Int64} {a : Nat → Nat → Int32} (h : LMv n V f a) (hp : p < n) : F_X12_lettersOf f g a (nI p) = some (nI (lo V p n)) := by
  have hn := h.1.1
  have h5 := h.1.2.1
  rw [← lr_lo]
  unfold F_X12_lettersOf N_X12_lettersOf_4
  refine lp_all (fun j => (nI (lr V p j), nI j)) (2 * n) _ _ rfl ?_ ?_ (by omega)
  · intro j hj
    have hh : a 3 j = nI (hN V j) ∧ hN V j < n := by
      obtain ⟨v1, v2, v3, v4, _, _⟩ := h.2 (j / 2) (by omega)
      unfold hN
      by_cases q : j % 2 = 0
      · rw [if_pos q]
        rw [show 2 * (j / 2) = j by omega] at v1
        exact ⟨v1, v3⟩
      · rw [if_neg q]
        rw [show 2 * (j / 2) + 1 = j by omega] at v2
        exact ⟨v2, v4⟩
    unfold B_X12_lettersOf_4 N_X12_lettersOf_36 N_X12_lettersOf_37
    dsimp only
    rw [h5, show (2 : Int32) * nI n = nI (2 * n) from pk_mul 2 n, if_neg (nlt' hj (by omega)), gd_t (inB_nI (by omega) (by omega)), nI_clamp (by omega), hh.1, nI_1, nI_1, show nI j / (2 : Int32) = nI (j / 2) from pk_div (d := 2) (by omega) (by omega) (by omega)]
    have q1 : (nI (hN V j) = nI p) ↔ hN V j = p := nI_eq (by omega) (by omega)
    have q2 : (nI (j / 2) = nI p) ↔ j / 2 = p := nI_eq (by omega) (by omega)
    simp only [lr, q1, q2]
    by_cases w1 : hN V j = p <;> by_cases w2 : j / 2 = p <;> simp [w1, w2]
  · unfold B_X12_lettersOf_4
    dsimp only
    rw [h5, show (2 : Int32) * nI n = nI (2 * n) from pk_mul 2 n, if_pos (nI_le (Nat.le_refl _) (by omega))]
    rfl
def pcs (o : Nat) : Nat → Nat
  | 0 => 0
  | k + 1 => pcs o k + o / 2 ^ k % 2
theorem bc_eq : ∀ o, o < 32 → F_J6_bitCount_0f7a4 (nI o) = nI (pcs o 5) := by decide +kernel
theorem size_eq {o : Nat} (ho : o < 32) : F_X12_size (nI o) = some (nI (pcs o 5)) := by
  unfold F_X12_size N_X12_size_4
  refine lp_all (fun j => (nI (pcs o j), nI j)) 5 _ _ rfl ?_ ?_ (by omega)
  · intro j hj
    unfold B_X12_size_4
    dsimp only
    rw [if_neg (show ¬ (5 : Int32) ≤ nI j from nlt' (n := 5) hj (by omega)), m_shr (by omega) (by omega), m_a1, nI_add, nI_1]
    rfl
  · rfl
def pq (V : Nat → Nat → Nat) : Nat → Nat
  | 0 => 0
  | i + 1 => pq V i + pcs (V 2 i) 5
theorem prX_eq {n : Nat} {V : Nat → Nat → Nat} {f : Nat → Int32} {g : Nat → Int64} {a : Nat → Nat → Int32} (h : LXv n V f a) : F_X9_quarrellingPairs f g a = some (nI (pq V n) / 2) := by
  have hn := h.1.1
  have h5 := h.1.2.1
  unfold F_X9_quarrellingPairs N_X9_quarrellingPairs_4
  refine lp_all (fun j => (nI (pq V j), nI j)) n _ _ rfl ?_ ?_ (by omega)
  · intro j hj
    obtain ⟨_, _, k3, k4⟩ := h.1.2.2 j hj
    unfold B_X9_quarrellingPairs_4
    dsimp only
    rw [h5, if_neg (nlt' hj (by omega)), at_in (by omega) (by omega), k3, bc_eq _ k4, nI_add, nI_1]
    rfl
  · unfold B_X9_quarrellingPairs_4
    dsimp only
    rw [h5, if_pos (nI_le (Nat.le_refl n) (by omega))]
    rfl
theorem prM_eq {n : Nat} {V : Nat → Nat → Nat} {f : Nat → Int32} {g : Nat → Int64} {a : Nat → Nat → Int32} (h : LMv n V f a) : F_X12_pairs f g a = some (nI (pq V n) / 2) := by
  have hn := h.1.1
  have h5 := h.1.2.1
  unfold F_X12_pairs N_X12_pairs_4
  refine lp_all (fun j => (nI (pq V j), nI j)) n _ _ rfl ?_ ?_ (by omega)
  · intro j hj
    obtain ⟨_, _, k3, k4⟩ := h.1.2.2 j hj
    unfold B_X12_pairs_4
    dsimp only
    rw [h5, if_neg (nlt' hj (by omega)), gd_t (inB_nI (by omega) (by omega)), nI_clamp (by omega), k3, size_eq k4]
    simp only [Option.bind_some]
    rw [nI_add, nI_1]
    rfl
  · unfold B_X12_pairs_4
    dsimp only
    rw [h5, if_pos (nI_le (Nat.le_refl n) (by omega))]
    rfl
/-! out of the relation -/
theorem Rel_lx {n hd : Nat} {V : Nat → Nat → Nat} {f f' : Nat → Int32} {a a' : Nat → Nat → Int32} {ro cnt : Int32} {p q y : Nat → Int32} (hT : RT n (f 5) (f' 1) (a 31) (a' 2) V) (hX : PX n hd V (a 14) (a 15) (a 16) ro cnt p q y) (hB : PB n hd V) : LXv n V f a := by
  refine ⟨⟨hT.1, hT.2.1, fun i hi => ?_⟩, fun i hi => ?_⟩
  · obtain ⟨t1, t2, t3⟩ := hT.2.2.2 i hi
    obtain ⟨_, _, b3, _⟩ := hB.2.1 i hi
    exact ⟨t1, t3, (hX.1 i hi).2.2, b3⟩
  · obtain ⟨x1, x2, x3⟩ := hX.1 i hi
    obtain ⟨b1, b2, b3, _⟩ := hB.2.1 i hi
    exact ⟨x1, x2, b1, b2⟩
theorem Rel_lm {n hd : Nat} {V : Nat → Nat → Nat} {f f' : Nat → Int32} {a a' : Nat → Nat → Int32} {cnt : Int32} {p q y : Nat → Int32} (hT : RT n (f 5) (f' 1) (a 31) (a' 2) V) (hM : PM n hd V (a' 3) (a' 4) (a' 5) cnt p q y) (hB : PB n hd V) : LMv n V f' a' := by
  refine ⟨⟨hT.1, hT.2.2.1, fun i hi => ?_⟩, fun i hi => ?_⟩
  · obtain ⟨t1, t2, t3⟩ := hT.2.2.2 i hi
    obtain ⟨_, _, b3, _⟩ := hB.2.1 i hi
    exact ⟨t2, t3, (hM.1 i hi).2.2.1, b3⟩
  · obtain ⟨x1, x2, x3, x4⟩ := hM.1 i hi
    obtain ⟨b1, b2, b3, b4⟩ := hB.2.1 i hi
    exact ⟨x1, x2, b1, b2, x4, b4⟩
theorem s_written : st_written Rel := by
  intro k hk f g a f' g' a' x y h
  have h0 := h
  obtain ⟨n, hd, tw, mv, dy, pl, V, pg, hT, hX, hM, hB, hC, hG, hK⟩ := h
  have hn := hT.1
  have h32 := (pow5 hn).1
  have lx : LXv n V f a := Rel_lx (f' := f') (a' := a') hT hX hB
  have lm : LMv n V f' a' := Rel_lm (f := f) (a := a) hT hM hB
  rcases p_case (f := f) (f' := f') (g := g) (g' := g') (a := a) (a' := a') hT.1 hT.2.1 hT.2.2.1 x with ⟨z1, z2⟩ | ⟨p, hp, rfl, z1, z2⟩
  · refine ⟨-101, ?_, ?_, Rel_mono _ _ _ h0⟩
    · unfold F_X11_written
      rw [if_pos z1]
    · unfold F_X12_written
      rw [if_pos z2]
  rcases c_case (f := f) (f' := f') (g := g) (g' := g') (a := a) (a' := a') hT.1 hT.2.1 hT.2.2.1 y with ⟨z3, z4⟩ | ⟨c, hc, rfl, z3, z4⟩
  · refine ⟨-102, ?_, ?_, Rel_mono _ _ _ h0⟩
    · unfold F_X11_written F_X9_isCompanyOf
      rw [if_neg (by rw [z1]; decide), if_pos (by rw [if_pos z3])]
    · unfold F_X12_written
      rw [if_neg (by rw [z2]; decide), if_pos z4]
  have eC := isCo_eq (n := n) (p := p) z3 (by omega) (by omega)
  have eI := isIn_eq (c := c) (p := p) (by omega) (by omega)
  cases ht : c.testBit p with
  | false =>
    rw [ht] at eC eI
    have eC : F_X9_isCompanyOf f g a (nI p) (nI c) = 0 := eC
    have eI : F_X12_isIn (nI c) (nI p) = 0 := eI
    refine ⟨-102, ?_, ?_, Rel_mono _ _ _ h0⟩
    · unfold F_X11_written
      rw [if_neg (by rw [z1]; decide), if_pos eC]
    · unfold F_X12_written
      rw [if_neg (by rw [z2]; decide), if_neg (by rw [z4]; decide), if_pos eI]
  | true =>
    rw [ht] at eC eI
    have eC : F_X9_isCompanyOf f g a (nI p) (nI c) = 1 := eC
    have eI : F_X12_isIn (nI c) (nI p) = 1 := eI
    refine ⟨bi (wv V p c), ?_, ?_, Rel_mono _ _ _ h0⟩
    · unfold F_X11_written
      rw [if_neg (by rw [z1]; decide), if_neg (by rw [eC]; decide), can_eq lx hp (by omega), ht]
      cases wv V p c <;> rfl
    · unfold F_X12_written
      rw [if_neg (by rw [z2]; decide), if_neg (by rw [z4]; decide), if_neg (by rw [eI]; decide), isw_eq lm hp (by omega)]
      cases wv V p c <;> rfl
theorem isK_eq (f : Nat → Int32) (g : Nat → Int64) (a : Nat → Nat → Int32) : ∀ w, w < 5 → F_X11_isOfKind_8 f g a (nI w) = bi (decide (w = 0)) ∧ F_X11_isOfKind_9 f g a (nI w) = bi (decide (w = 0 ∨ w = 1)) ∧ F_X11_isOfKind_10 f g a (nI w) = bi (decide (w = 0 ∨ w = 2)) ∧ F_X11_isOfKind_11 f g a (nI w) = bi (decide (w = 0 ∨ w = 3)) ∧ F_X11_isOfKind_12 f g a (nI w) = bi (decide (w = 0 ∨ w = 2 ∨ w = 4)) := by
  intro w hw
  rcases (show w = 0 ∨ w = 1 ∨ w = 2 ∨ w = 3 ∨ w = 4 by omega) with rfl | rfl | rfl | rfl | rfl <;> exact ⟨rfl, rfl, rfl, rfl, rfl⟩
theorem s_as : st_as Rel := by
  intro k hk f g a f' g' a' x y h
  have h0 := h
  obtain ⟨n, hd, tw, mv, dy, pl, V, pg, hT, hX, hM, hB, hC, hG, hK⟩ := h
  have hn := hT.1
  have lx : LXv n V f a := Rel_lx (f' := f') (a' := a') hT hX hB
  rcases p_case (f := f) (f' := f') (g := g) (g' := g') (a := a) (a' := a') hT.1 hT.2.1 hT.2.2.1 x with ⟨z1, z2⟩ | ⟨p, hp, rfl, z1, z2⟩
  · refine ⟨-101, ?_, ?_, Rel_mono _ _ _ h0⟩
    · unfold F_X11_as
      rw [if_pos z1]
    · unfold F_X12_as
      rw [if_pos z2]
  rcases w_case y 0 4 (by omega) (by omega) with ⟨hw, hz⟩ | ⟨w, h1, h2, rfl, hz⟩
  · have hz : F_X12_within y 0 4 = 0 := hz
    refine ⟨-102, ?_, ?_, Rel_mono _ _ _ h0⟩
    · unfold F_X11_as
      rw [if_neg (by rw [z1]; decide)]
      by_cases c1 : y < 0
      · rw [if_pos c1]
      · rw [if_neg c1, if_neg]
        rcases hw with hw | hw
        · exact absurd hw c1
        · exact m_gtL (b := 4) (by omega) hw
    · unfold F_X12_as
      rw [if_neg (by rw [z2]; decide), if_pos hz]
  have hz : F_X12_within (nI w) 0 4 = 1 := hz
  obtain ⟨t1, t2, t3⟩ := hT.2.2.2 p hp
  have t2 : a' 2 p = nI (V 7 p) := t2
  obtain ⟨i0, i1, i2, i3, i4⟩ := isK_eq f g a w (by omega)
  have hK5 : V 7 p = 0 ∨ V 7 p = 1 ∨ V 7 p = 2 ∨ V 7 p = 3 ∨ V 7 p = 4 := by omega
  refine ⟨if w = 0 ∨ V 7 p = w ∨ (w = 2 ∧ V 7 p = 4) then nI p else -1, ?_, ?_, Rel_mono _ _ _ h0⟩
  · unfold F_X11_as
    rw [if_neg (by rw [z1]; decide), if_neg (nI_pos (by omega)), if_pos (show nI w < (5 : Int32) from nI_lt (b := 5) (by omega) (by omega)), pa_eq lx.1 hp, i0, i1, i2, i3, i4]
    rcases hK5 with q | q | q | q | q <;> rw [q] <;> rcases (show w = 0 ∨ w = 1 ∨ w = 2 ∨ w = 3 ∨ w = 4 by omega) with rfl | rfl | rfl | rfl | rfl <;> rfl
  · unfold F_X12_as N_X12_as_49
    rw [if_neg (by rw [z2]; decide), if_neg (by rw [hz]; decide), gd_t (inB_nI (by omega) (by omega)), nI_clamp (by omega), t2]
    rcases hK5 with q | q | q | q | q <;> rw [q] <;> rcases (show w = 0 ∨ w = 1 ∨ w = 2 ∨ w = 3 ∨ w = 4 by omega) with rfl | rfl | rfl | rfl | rfl <;> rfl
