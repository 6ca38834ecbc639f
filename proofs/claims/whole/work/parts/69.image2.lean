/-! ===== 69: image, restore of the reference; the steps ===== -/
theorem image_112_eq (f : Nat → Int32) (g : Nat → Int64) (a : Nat → Nat → Int32) : ∃ a2, N_X12_image_112 f g a 0 = some (((f 6) + (f 7)), f, g, a2) ∧ (∀ t, t ≠ 27 → t ≠ 28 → t ≠ 29 → a2 t = a t) ∧ (∀ i, i < 6 → a2 27 i = a 9 i ∧ a2 28 i = a 10 i ∧ a2 29 i = a 11 i) := by
  unfold N_X12_image_112
  refine Exists.elim (lp_inv (b := fun q112 : (Int32 × ST) => B_X12_image_112 q112.2.1 q112.2.2.1 q112.2.2.2 q112.1) (fun j s => ∃ aj, s = (nI j, f, g, aj) ∧ (∀ t, t ≠ 27 → t ≠ 28 → t ≠ 29 → aj t = a t) ∧ (∀ i, i < j → aj 27 i = a 9 i) ∧ (∀ i, i < j → aj 28 i = a 10 i) ∧ (∀ i, i < j → aj 29 i = a 11 i)) (fun r => ∃ a2, r = (((f 6) + (f 7)), f, g, a2) ∧ (∀ t, t ≠ 27 → t ≠ 28 → t ≠ 29 → a2 t = a t) ∧ (∀ i, i < 6 → a2 27 i = a 9 i ∧ a2 28 i = a 10 i ∧ a2 29 i = a 11 i)) 6 ?_ ?_ (by omega) (0, f, g, a) ⟨a, rfl, fun t _ _ _ => rfl, fun i h => absurd h (by omega), fun i h => absurd h (by omega), fun i h => absurd h (by omega)⟩) ?_
  rotate_left 2
  · rintro r ⟨w1, a2, rfl, w2⟩
    exact ⟨a2, w1, w2⟩
  · rintro j hj s ⟨aj, rfl, h0, h1, h2, h3⟩
    have e1 := h0 9 (by decide) (by decide) (by decide)
    have e2 := h0 10 (by decide) (by decide) (by decide)
    have e3 := h0 11 (by decide) (by decide) (by decide)
    refine ⟨(nI (j + 1), f, g, (ua (ua (ua aj 27 j (aj 9 j)) 28 j (aj 10 j)) 29 j (aj 11 j))), ?_, _, rfl, ?_, ?_, ?_, ?_⟩
    · unfold B_X12_image_112
      dsimp only
      rw [if_neg (nle6 hj), nI_1]
      simp only [gd_t (inB_nI (n := 6) hj (by omega)), nI_clamp (show j < 2 ^ 31 by omega)]
      rfl
    · intro t q1 q2 q3
      rw [ua_n _ _ _ q3, ua_n _ _ _ q2, ua_n _ _ _ q1, h0 t q1 q2 q3]
    · rw [e1]; exact cp_up h1
    · rw [e2]; exact cp_up h2
    · rw [e3]; exact cp_up h3
  · rintro s ⟨aj, rfl, h0, h1, h2, h3⟩
    refine ⟨_, ?_, aj, rfl, h0, fun i hi => ⟨h1 i hi, h2 i hi, h3 i hi⟩⟩
    unfold B_X12_image_112
    dsimp only
    rw [if_pos (show (6 : Int32) ≤ nI 6 from nI_le (a := 6) (Nat.le_refl 6) (by omega))]
    rfl
theorem image_75_eq (f : Nat → Int32) (g : Nat → Int64) (a : Nat → Nat → Int32) : ∃ a2, N_X12_image_75 f g a 0 = some (((f 6) + (f 7)), f, g, a2) ∧ (∀ t, t ≠ 25 → t ≠ 26 → t ≠ 27 → t ≠ 28 → t ≠ 29 → a2 t = a t) ∧ (∀ i, i < 5 → a2 25 i = a 4 i ∧ a2 26 i = a 5 i) ∧ (∀ i, i < 6 → a2 27 i = a 9 i ∧ a2 28 i = a 10 i ∧ a2 29 i = a 11 i) := by
  unfold N_X12_image_75
  refine Exists.elim (lp_inv (b := fun q75 : (Int32 × ST) => B_X12_image_75 q75.2.1 q75.2.2.1 q75.2.2.2 q75.1) (fun j s => ∃ aj, s = (nI j, f, g, aj) ∧ (∀ t, t ≠ 25 → t ≠ 26 → aj t = a t) ∧ (∀ i, i < j → aj 25 i = a 4 i) ∧ (∀ i, i < j → aj 26 i = a 5 i)) (fun r => ∃ a2, r = (((f 6) + (f 7)), f, g, a2) ∧ (∀ t, t ≠ 25 → t ≠ 26 → t ≠ 27 → t ≠ 28 → t ≠ 29 → a2 t = a t) ∧ (∀ i, i < 5 → a2 25 i = a 4 i ∧ a2 26 i = a 5 i) ∧ (∀ i, i < 6 → a2 27 i = a 9 i ∧ a2 28 i = a 10 i ∧ a2 29 i = a 11 i)) 5 ?_ ?_ (by omega) (0, f, g, a) ⟨a, rfl, fun t _ _ => rfl, fun i h => absurd h (by omega), fun i h => absurd h (by omega)⟩) ?_
  rotate_left 2
  · rintro r ⟨w1, a2, rfl, w2⟩
    exact ⟨a2, w1, w2⟩
  · rintro j hj s ⟨aj, rfl, h0, h1, h2⟩
    have e1 := h0 4 (by decide) (by decide)
    have e2 := h0 5 (by decide) (by decide)
    refine ⟨(nI (j + 1), f, g, (ua (ua aj 25 j (aj 4 j)) 26 j (aj 5 j))), ?_, _, rfl, ?_, ?_, ?_⟩
    · unfold B_X12_image_75
      dsimp only
      rw [if_neg (nle5 hj), nI_1]
      simp only [gd_t (inB_nI (n := 5) hj (by omega)), nI_clamp (show j < 2 ^ 31 by omega)]
      rfl
    · intro t q1 q2
      rw [ua_n _ _ _ q2, ua_n _ _ _ q1, h0 t q1 q2]
    · rw [e1]; exact cp_up h1
    · rw [e2]; exact cp_up h2
  · rintro s ⟨aj, rfl, h0, h1, h2⟩
    obtain ⟨a2, w1, w2, w3⟩ := image_112_eq f g aj
    refine ⟨_, ?_, a2, rfl, ?_, ?_, ?_⟩
    · unfold B_X12_image_75
      dsimp only
      rw [if_pos (show (5 : Int32) ≤ nI 5 from nI_le (a := 5) (Nat.le_refl 5) (by omega)), w1]
      rfl
    · intro t q1 q2 p1 p2 p3
      rw [w2 t p1 p2 p3, h0 t q1 q2]
    · intro i hi
      rw [w2 25 (by decide) (by decide) (by decide), w2 26 (by decide) (by decide) (by decide)]
      exact ⟨h1 i hi, h2 i hi⟩
    · intro i hi
      rw [← h0 9 (by decide) (by decide), ← h0 10 (by decide) (by decide), ← h0 11 (by decide) (by decide)]
      exact w3 i hi
theorem image_49_eq (f : Nat → Int32) (g : Nat → Int64) (a : Nat → Nat → Int32) : ∃ a2, N_X12_image_49 f g a 0 = some (((f 6) + (f 7)), f, g, a2) ∧ (∀ t, t ≠ 24 → t ≠ 25 → t ≠ 26 → t ≠ 27 → t ≠ 28 → t ≠ 29 → a2 t = a t) ∧ (∀ i, i < 10 → a2 24 i = a 3 i) ∧ (∀ i, i < 5 → a2 25 i = a 4 i ∧ a2 26 i = a 5 i) ∧ (∀ i, i < 6 → a2 27 i = a 9 i ∧ a2 28 i = a 10 i ∧ a2 29 i = a 11 i) := by
  unfold N_X12_image_49
  refine Exists.elim (lp_inv (b := fun q49 : (Int32 × ST) => B_X12_image_49 q49.2.1 q49.2.2.1 q49.2.2.2 q49.1) (fun j s => ∃ aj, s = (nI j, f, g, aj) ∧ (∀ t, t ≠ 24 → aj t = a t) ∧ (∀ i, i < j → aj 24 i = a 3 i)) (fun r => ∃ a2, r = (((f 6) + (f 7)), f, g, a2) ∧ (∀ t, t ≠ 24 → t ≠ 25 → t ≠ 26 → t ≠ 27 → t ≠ 28 → t ≠ 29 → a2 t = a t) ∧ (∀ i, i < 10 → a2 24 i = a 3 i) ∧ (∀ i, i < 5 → a2 25 i = a 4 i ∧ a2 26 i = a 5 i) ∧ (∀ i, i < 6 → a2 27 i = a 9 i ∧ a2 28 i = a 10 i ∧ a2 29 i = a 11 i)) 10 ?_ ?_ (by omega) (0, f, g, a) ⟨a, rfl, fun t _ => rfl, fun i h => absurd h (by omega)⟩) ?_
  rotate_left 2
  · rintro r ⟨w1, a2, rfl, w2⟩
    exact ⟨a2, w1, w2⟩
  · rintro j hj s ⟨aj, rfl, h0, h1⟩
    have e1 := h0 3 (by decide)
    refine ⟨(nI (j + 1), f, g, (ua aj 24 j (aj 3 j))), ?_, _, rfl, ?_, ?_⟩
    · unfold B_X12_image_49
      dsimp only
      rw [if_neg (nle10 hj), nI_1]
      simp only [gd_t (inB_nI (n := 10) hj (by omega)), nI_clamp (show j < 2 ^ 31 by omega)]
    · intro t q1
      rw [ua_n _ _ _ q1, h0 t q1]
    · rw [e1]; exact cp_up h1
  · rintro s ⟨aj, rfl, h0, h1⟩
    obtain ⟨a2, w1, w2, w3, w4⟩ := image_75_eq f g aj
    refine ⟨_, ?_, a2, rfl, ?_, ?_, ?_, ?_⟩
    · unfold B_X12_image_49
      dsimp only
      rw [if_pos (show (10 : Int32) ≤ nI 10 from nI_le (a := 10) (Nat.le_refl 10) (by omega)), w1]
      rfl
    · intro t q1 p1 p2 p3 p4 p5
      rw [w2 t p1 p2 p3 p4 p5, h0 t q1]
    · intro i hi
      rw [w2 24 (by decide) (by decide) (by decide) (by decide) (by decide)]
      exact h1 i hi
    · intro i hi
      rw [← h0 4 (by decide), ← h0 5 (by decide)]
      exact w3 i hi
    · intro i hi
      rw [← h0 9 (by decide), ← h0 10 (by decide), ← h0 11 (by decide)]
      exact w4 i hi
theorem restore_110_eq (f : Nat → Int32) (g : Nat → Int64) (a : Nat → Nat → Int32) : ∃ a2, N_X12_restore_110 f g a 0 = some (((f 6) + (f 7)), f, g, a2) ∧ (∀ t, t ≠ 9 → t ≠ 10 → t ≠ 11 → a2 t = a t) ∧ (∀ i, i < 6 → a2 9 i = a 27 i ∧ a2 10 i = a 28 i ∧ a2 11 i = a 29 i) := by
  unfold N_X12_restore_110
  refine Exists.elim (lp_inv (b := fun q110 : (Int32 × ST) => B_X12_restore_110 q110.2.1 q110.2.2.1 q110.2.2.2 q110.1) (fun j s => ∃ aj, s = (nI j, f, g, aj) ∧ (∀ t, t ≠ 9 → t ≠ 10 → t ≠ 11 → aj t = a t) ∧ (∀ i, i < j → aj 9 i = a 27 i) ∧ (∀ i, i < j → aj 10 i = a 28 i) ∧ (∀ i, i < j → aj 11 i = a 29 i)) (fun r => ∃ a2, r = (((f 6) + (f 7)), f, g, a2) ∧ (∀ t, t ≠ 9 → t ≠ 10 → t ≠ 11 → a2 t = a t) ∧ (∀ i, i < 6 → a2 9 i = a 27 i ∧ a2 10 i = a 28 i ∧ a2 11 i = a 29 i)) 6 ?_ ?_ (by omega) (0, f, g, a) ⟨a, rfl, fun t _ _ _ => rfl, fun i h => absurd h (by omega), fun i h => absurd h (by omega), fun i h => absurd h (by omega)⟩) ?_
  rotate_left 2
  · rintro r ⟨w1, a2, rfl, w2⟩
    exact ⟨a2, w1, w2⟩
  · rintro j hj s ⟨aj, rfl, h0, h1, h2, h3⟩
    have e1 := h0 27 (by decide) (by decide) (by decide)
    have e2 := h0 28 (by decide) (by decide) (by decide)
    have e3 := h0 29 (by decide) (by decide) (by decide)
    refine ⟨(nI (j + 1), f, g, (ua (ua (ua aj 9 j (aj 27 j)) 10 j (aj 28 j)) 11 j (aj 29 j))), ?_, _, rfl, ?_, ?_, ?_, ?_⟩
    · unfold B_X12_restore_110
      dsimp only
      rw [if_neg (nle6 hj), nI_1]
      simp only [gd_t (inB_nI (n := 6) hj (by omega)), nI_clamp (show j < 2 ^ 31 by omega)]
      rfl
    · intro t q1 q2 q3
      rw [ua_n _ _ _ q3, ua_n _ _ _ q2, ua_n _ _ _ q1, h0 t q1 q2 q3]
    · rw [e1]; exact cp_up h1
    · rw [e2]; exact cp_up h2
    · rw [e3]; exact cp_up h3
  · rintro s ⟨aj, rfl, h0, h1, h2, h3⟩
    refine ⟨_, ?_, aj, rfl, h0, fun i hi => ⟨h1 i hi, h2 i hi, h3 i hi⟩⟩
    unfold B_X12_restore_110
    dsimp only
    rw [if_pos (show (6 : Int32) ≤ nI 6 from nI_le (a := 6) (Nat.le_refl 6) (by omega))]
    rfl
theorem restore_73_eq (f : Nat → Int32) (g : Nat → Int64) (a : Nat → Nat → Int32) : ∃ a2, N_X12_restore_73 f g a 0 = some (((f 6) + (f 7)), f, g, a2) ∧ (∀ t, t ≠ 4 → t ≠ 5 → t ≠ 9 → t ≠ 10 → t ≠ 11 → a2 t = a t) ∧ (∀ i, i < 5 → a2 4 i = a 25 i ∧ a2 5 i = a 26 i) ∧ (∀ i, i < 6 → a2 9 i = a 27 i ∧ a2 10 i = a 28 i ∧ a2 11 i = a 29 i) := by
  unfold N_X12_restore_73
  refine Exists.elim (lp_inv (b := fun q73 : (Int32 × ST) => B_X12_restore_73 q73.2.1 q73.2.2.1 q73.2.2.2 q73.1) (fun j s => ∃ aj, s = (nI j, f, g, aj) ∧ (∀ t, t ≠ 4 → t ≠ 5 → aj t = a t) ∧ (∀ i, i < j → aj 4 i = a 25 i) ∧ (∀ i, i < j → aj 5 i = a 26 i)) (fun r => ∃ a2, r = (((f 6) + (f 7)), f, g, a2) ∧ (∀ t, t ≠ 4 → t ≠ 5 → t ≠ 9 → t ≠ 10 → t ≠ 11 → a2 t = a t) ∧ (∀ i, i < 5 → a2 4 i = a 25 i ∧ a2 5 i = a 26 i) ∧ (∀ i, i < 6 → a2 9 i = a 27 i ∧ a2 10 i = a 28 i ∧ a2 11 i = a 29 i)) 5 ?_ ?_ (by omega) (0, f, g, a) ⟨a, rfl, fun t _ _ => rfl, fun i h => absurd h (by omega), fun i h => absurd h (by omega)⟩) ?_
  rotate_left 2
  · rintro r ⟨w1, a2, rfl, w2⟩
    exact ⟨a2, w1, w2⟩
  · rintro j hj s ⟨aj, rfl, h0, h1, h2⟩
    have e1 := h0 25 (by decide) (by decide)
    have e2 := h0 26 (by decide) (by decide)
    refine ⟨(nI (j + 1), f, g, (ua (ua aj 4 j (aj 25 j)) 5 j (aj 26 j))), ?_, _, rfl, ?_, ?_, ?_⟩
    · unfold B_X12_restore_73
      dsimp only
      rw [if_neg (nle5 hj), nI_1]
      simp only [gd_t (inB_nI (n := 5) hj (by omega)), nI_clamp (show j < 2 ^ 31 by omega)]
      rfl
    · intro t q1 q2
      rw [ua_n _ _ _ q2, ua_n _ _ _ q1, h0 t q1 q2]
    · rw [e1]; exact cp_up h1
    · rw [e2]; exact cp_up h2
  · rintro s ⟨aj, rfl, h0, h1, h2⟩
    obtain ⟨a2, w1, w2, w3⟩ := restore_110_eq f g aj
    refine ⟨_, ?_, a2, rfl, ?_, ?_, ?_⟩
    · unfold B_X12_restore_73
      dsimp only
      rw [if_pos (show (5 : Int32) ≤ nI 5 from nI_le (a := 5) (Nat.le_refl 5) (by omega)), w1]
      rfl
    · intro t q1 q2 p1 p2 p3
      rw [w2 t p1 p2 p3, h0 t q1 q2]
    · intro i hi
      rw [w2 4 (by decide) (by decide) (by decide), w2 5 (by decide) (by decide) (by decide)]
      exact ⟨h1 i hi, h2 i hi⟩
    · intro i hi
      rw [← h0 27 (by decide) (by decide), ← h0 28 (by decide) (by decide), ← h0 29 (by decide) (by decide)]
      exact w3 i hi
theorem restore_47_eq (f : Nat → Int32) (g : Nat → Int64) (a : Nat → Nat → Int32) : ∃ a2, N_X12_restore_47 f g a 0 = some (((f 6) + (f 7)), f, g, a2) ∧ (∀ t, t ≠ 3 → t ≠ 4 → t ≠ 5 → t ≠ 9 → t ≠ 10 → t ≠ 11 → a2 t = a t) ∧ (∀ i, i < 10 → a2 3 i = a 24 i) ∧ (∀ i, i < 5 → a2 4 i = a 25 i ∧ a2 5 i = a 26 i) ∧ (∀ i, i < 6 → a2 9 i = a 27 i ∧ a2 10 i = a 28 i ∧ a2 11 i = a 29 i) := by
  unfold N_X12_restore_47
  refine Exists.elim (lp_inv (b := fun q47 : (Int32 × ST) => B_X12_restore_47 q47.2.1 q47.2.2.1 q47.2.2.2 q47.1) (fun j s => ∃ aj, s = (nI j, f, g, aj) ∧ (∀ t, t ≠ 3 → aj t = a t) ∧ (∀ i, i < j → aj 3 i = a 24 i)) (fun r => ∃ a2, r = (((f 6) + (f 7)), f, g, a2) ∧ (∀ t, t ≠ 3 → t ≠ 4 → t ≠ 5 → t ≠ 9 → t ≠ 10 → t ≠ 11 → a2 t = a t) ∧ (∀ i, i < 10 → a2 3 i = a 24 i) ∧ (∀ i, i < 5 → a2 4 i = a 25 i ∧ a2 5 i = a 26 i) ∧ (∀ i, i < 6 → a2 9 i = a 27 i ∧ a2 10 i = a 28 i ∧ a2 11 i = a 29 i)) 10 ?_ ?_ (by omega) (0, f, g, a) ⟨a, rfl, fun t _ => rfl, fun i h => absurd h (by omega)⟩) ?_
  rotate_left 2
  · rintro r ⟨w1, a2, rfl, w2⟩
    exact ⟨a2, w1, w2⟩
  · rintro j hj s ⟨aj, rfl, h0, h1⟩
    have e1 := h0 24 (by decide)
    refine ⟨(nI (j + 1), f, g, (ua aj 3 j (aj 24 j))), ?_, _, rfl, ?_, ?_⟩
    · unfold B_X12_restore_47
      dsimp only
      rw [if_neg (nle10 hj), nI_1]
      simp only [gd_t (inB_nI (n := 10) hj (by omega)), nI_clamp (show j < 2 ^ 31 by omega)]
    · intro t q1
      rw [ua_n _ _ _ q1, h0 t q1]
    · rw [e1]; exact cp_up h1
  · rintro s ⟨aj, rfl, h0, h1⟩
    obtain ⟨a2, w1, w2, w3, w4⟩ := restore_73_eq f g aj
    refine ⟨_, ?_, a2, rfl, ?_, ?_, ?_, ?_⟩
    · unfold B_X12_restore_47
      dsimp only
      rw [if_pos (show (10 : Int32) ≤ nI 10 from nI_le (a := 10) (Nat.le_refl 10) (by omega)), w1]
      rfl
    · intro t q1 p1 p2 p3 p4 p5
      rw [w2 t p1 p2 p3 p4 p5, h0 t q1]
    · intro i hi
      rw [w2 3 (by decide) (by decide) (by decide) (by decide) (by decide)]
      exact h1 i hi
    · intro i hi
      rw [← h0 25 (by decide), ← h0 26 (by decide)]
      exact w3 i hi
    · intro i hi
      rw [← h0 27 (by decide), ← h0 28 (by decide), ← h0 29 (by decide)]
      exact w4 i hi
theorem s_image : st_image Rel := by
  intro k hk f g a f' g' a' h
  have h0 := h
  obtain ⟨n, hd, tw, mv, dy, pl, V, pg, hT, hX, hM, hB, hC, hG, hK⟩ := h
  have e5 : f 5 = nI n := hT.2.1
  have e1 : f' 1 = nI n := hT.2.2.1
  have hn := hT.1
  obtain ⟨c1, c2, c3, c4, c5, c6, c7, c8, c9, c10, c11⟩ := hC
  have c1 : tw ≤ k := c1
  have c2 : f 0 = nI tw := c2
  have c3 : f' 0 = nI tw := c3
  have c10 : f 8 = f' 6 := c10
  have c11 : f 9 = f' 7 := c11
  rcases Nat.eq_zero_or_pos n with hn0 | hn0
  · subst hn0
    refine ⟨-103, (f, g, a), (f', g', a'), ?_, ?_, Rel_mono _ _ _ h0⟩
    · unfold F_X11_image
      rw [e5, if_pos (show nI 0 = (0 : Int32) from rfl)]
    · unfold F_X12_image
      rw [e1, if_pos (show nI 0 = (0 : Int32) from rfl)]
  obtain ⟨a2, w1, w2, w3, w4⟩ := copyK_eq f g a
  obtain ⟨b2, v1, v2, v3, v4, v5⟩ := image_49_eq (upd (upd (upd (upd (upd f' 19 1) 20 (f' 0)) 21 (f' 6)) 22 (f' 7)) 23 (f' 8)) g' a'
  have ne0 : ¬ nI n = 0 := fun z => by have := (nz (by omega)).mp z; omega
  refine ⟨f 8 + f 9, (upd (upd (upd (upd (upd f 10 (f 6)) 11 (f 7)) 12 (f 8)) 13 (f 9)) 1 (f 0), g, a2), (upd (upd (upd (upd (upd f' 19 1) 20 (f' 0)) 21 (f' 6)) 22 (f' 7)) 23 (f' 8), g', b2), ?_, ?_, ?_⟩
  · unfold F_X11_image
    rw [e5, if_neg ne0, w1]
    rfl
  · unfold F_X12_image
    rw [e1, if_neg ne0]
    refine Eq.trans v1 ?_
    rw [c10, c11]
    rfl
  · refine ⟨n, hd, tw, mv, dy, pl, V, pg, ?_, ?_, ?_, hB, ⟨by omega, c2, c3, c4, c5, c6, c7, c8, c9, c10, c11⟩, ?_, ?_⟩
    · show RT n (f 5) (f' 1) (a2 31) (b2 2) V
      rw [w2 31 (by decide) (by decide) (by decide) (by decide) (by decide) (by decide), v2 2 (by decide) (by decide) (by decide) (by decide) (by decide) (by decide)]
      exact hT
    · show PX n hd V (a2 14) (a2 15) (a2 16) (f 6) (f 7) (a2 17) (a2 18) (a2 19)
      rw [w2 14 (by decide) (by decide) (by decide) (by decide) (by decide) (by decide), w2 15 (by decide) (by decide) (by decide) (by decide) (by decide) (by decide), w2 16 (by decide) (by decide) (by decide) (by decide) (by decide) (by decide), w2 17 (by decide) (by decide) (by decide) (by decide) (by decide) (by decide), w2 18 (by decide) (by decide) (by decide) (by decide) (by decide) (by decide), w2 19 (by decide) (by decide) (by decide) (by decide) (by decide) (by decide)]
      exact hX
    · show PM n hd V (b2 3) (b2 4) (b2 5) (f' 8) (b2 9) (b2 10) (b2 11)
      rw [v2 3 (by decide) (by decide) (by decide) (by decide) (by decide) (by decide), v2 4 (by decide) (by decide) (by decide) (by decide) (by decide) (by decide), v2 5 (by decide) (by decide) (by decide) (by decide) (by decide) (by decide), v2 9 (by decide) (by decide) (by decide) (by decide) (by decide) (by decide), v2 10 (by decide) (by decide) (by decide) (by decide) (by decide) (by decide), v2 11 (by decide) (by decide) (by decide) (by decide) (by decide) (by decide)]
      exact hM
    · show RG pl (f 4) (f' 14) (a2 13) (b2 15) pg
      rw [w2 13 (by decide) (by decide) (by decide) (by decide) (by decide) (by decide), v2 15 (by decide) (by decide) (by decide) (by decide) (by decide) (by decide)]
      exact hG
    · have ht := hK.1 hn0
      refine ⟨hK.1, Or.inr ⟨tw, ht, Nat.le_refl _, c2, rfl, c3, fun _ => ⟨hd, V, ⟨fun i hi => ?_, hX.2.1, hX.2.2.1, fun i hi => ?_⟩, ⟨fun i hi => ?_, hM.2.1, fun i hi => ?_⟩, hB, c10, c11⟩⟩⟩
      · show a2 20 i = nI (V 0 i) ∧ a2 21 i = nI (V 1 i) ∧ a2 22 i = nI (V 2 i)
        obtain ⟨q1, q2, q3⟩ := w3 i (by omega)
        rw [q1, q2, q3]
        exact hX.1 i hi
      · show a2 23 i = nI (V 4 i) ∧ a2 24 i = nI (V 5 i) ∧ a2 25 i = nI (V 6 i)
        obtain ⟨q1, q2, q3⟩ := w4 i (by have := hB.1; omega)
        rw [q1, q2, q3]
        exact hX.2.2.2 i hi
      · show b2 24 (2 * i) = nI (V 0 i) ∧ b2 24 (2 * i + 1) = nI (V 1 i) ∧ b2 26 i = nI (V 2 i) ∧ b2 25 i = nI (V 3 i)
        have q0 := v3 (2 * i) (by omega)
        have q1 := v3 (2 * i + 1) (by omega)
        obtain ⟨q2, q3⟩ := v4 i (by omega)
        rw [q0, q1, q2, q3]
        exact hM.1 i hi
      · show b2 27 i = nI (V 4 i) ∧ b2 28 i = nI (V 5 i) ∧ b2 29 i = nI (V 6 i)
        obtain ⟨q1, q2, q3⟩ := v5 i (by have := hB.1; omega)
        rw [q1, q2, q3]
        exact hM.2.2 i hi
theorem s_restore : st_restore Rel := by
  intro k hk f g a f' g' a' h
  have h0 := h
  obtain ⟨n, hd, tw, mv, dy, pl, V, pg, hT, hX, hM, hB, hC, hG, hK⟩ := h
  have hn := hT.1
  obtain ⟨c1, c2, c3, c4, c5, c6, c7, c8, c9, c10, c11⟩ := hC
  have c1 : tw ≤ k := c1
  have c2 : f 0 = nI tw := c2
  have c3 : f' 0 = nI tw := c3
  obtain ⟨hK0, hK⟩ := hK
  rcases hK with ⟨k1, k2⟩ | ⟨kt, k1, k2, k3, k4, k5, k6⟩
  · have k1 : f 1 = 0 := k1
    have k2 : f' 19 = 0 := k2
    refine ⟨-103, (f, g, a), (f', g', a'), ?_, ?_, Rel_mono _ _ _ h0⟩
    · unfold F_X11_restore
      rw [if_pos k1]
    · unfold F_X12_restore
      rw [if_pos k2]
  have k3 : f 1 = nI kt := k3
  have k4 : f' 19 = 1 := k4
  have k5 : f' 20 = nI kt := k5
  have ne0 : ¬ f 1 = 0 := by rw [k3]; exact fun z => by have := (nz (by omega)).mp z; omega
  have ne1 : ¬ f' 19 = 0 := by rw [k4]; decide
  by_cases he : kt = tw
  · obtain ⟨hk', VK, p1, p2, p3, p4, p5⟩ := k6 he
    have p4 : f 12 = f' 21 := p4
    have p5 : f 13 = f' 22 := p5
    obtain ⟨a2, w1, w2, w3, w4⟩ := copyH_eq f g a
    obtain ⟨b2, v1, v2, v3, v4, v5⟩ := restore_47_eq (upd (upd (upd f' 6 (f' 21)) 7 (f' 22)) 8 (f' 23)) g' a'
    refine ⟨f 12 + f 13, (upd (upd (upd (upd f 6 (f 10)) 7 (f 11)) 8 (f 12)) 9 (f 13), g, a2), (upd (upd (upd f' 6 (f' 21)) 7 (f' 22)) 8 (f' 23), g', b2), ?_, ?_, ?_⟩
    · unfold F_X11_restore
      rw [if_neg ne0, if_pos (by rw [k3, c2, he]), w1]
      rfl
    · unfold F_X12_restore
      rw [if_neg ne1, if_pos (by rw [k5, c3, he])]
      refine Eq.trans v1 ?_
      rw [p4, p5]
      rfl
    · refine ⟨n, hk', tw, mv, dy, pl, vset VK 7 (V 7), pg, ?_, ⟨fun i hi => ?_, p1.2.1, p1.2.2.1, fun i hi => ?_⟩, ⟨fun i hi => ?_, p2.2.1, fun i hi => ?_⟩, p3, ⟨by omega, c2, c3, c4, c5, c6, c7, c8, c9, p4, p5⟩, ?_, ?_⟩
      · show RT n (f 5) (f' 1) (a2 31) (b2 2) V
        rw [w2 31 (by decide) (by decide) (by decide) (by decide) (by decide) (by decide), v2 2 (by decide) (by decide) (by decide) (by decide) (by decide) (by decide)]
        exact hT
      · show a2 14 i = nI (VK 0 i) ∧ a2 15 i = nI (VK 1 i) ∧ a2 16 i = nI (VK 2 i)
        obtain ⟨q1, q2, q3⟩ := w3 i (by omega)
        rw [q1, q2, q3]
        exact p1.1 i hi
      · show a2 17 i = nI (VK 4 i) ∧ a2 18 i = nI (VK 5 i) ∧ a2 19 i = nI (VK 6 i)
        obtain ⟨q1, q2, q3⟩ := w4 i (by have := p3.1; omega)
        rw [q1, q2, q3]
        exact p1.2.2.2 i hi
      · show b2 3 (2 * i) = nI (VK 0 i) ∧ b2 3 (2 * i + 1) = nI (VK 1 i) ∧ b2 5 i = nI (VK 2 i) ∧ b2 4 i = nI (VK 3 i)
        have q0 := v3 (2 * i) (by omega)
        have q1 := v3 (2 * i + 1) (by omega)
        obtain ⟨q2, q3⟩ := v4 i (by omega)
        rw [q0, q1, q2, q3]
        exact p2.1 i hi
      · show b2 9 i = nI (VK 4 i) ∧ b2 10 i = nI (VK 5 i) ∧ b2 11 i = nI (VK 6 i)
        obtain ⟨q1, q2, q3⟩ := v5 i (by have := p3.1; omega)
        rw [q1, q2, q3]
        exact p2.2.2 i hi
      · show RG pl (f 4) (f' 14) (a2 13) (b2 15) pg
        rw [w2 13 (by decide) (by decide) (by decide) (by decide) (by decide) (by decide), v2 15 (by decide) (by decide) (by decide) (by decide) (by decide) (by decide)]
        exact hG
      · refine ⟨hK0, Or.inr ⟨kt, k1, k2, k3, k4, k5, fun _ => ⟨hk', VK, ?_, ?_, p3, p4, p5⟩⟩⟩
        · show PX n hk' VK (a2 20) (a2 21) (a2 22) (f 10) (f 11) (a2 23) (a2 24) (a2 25)
          rw [w2 20 (by decide) (by decide) (by decide) (by decide) (by decide) (by decide), w2 21 (by decide) (by decide) (by decide) (by decide) (by decide) (by decide), w2 22 (by decide) (by decide) (by decide) (by decide) (by decide) (by decide), w2 23 (by decide) (by decide) (by decide) (by decide) (by decide) (by decide), w2 24 (by decide) (by decide) (by decide) (by decide) (by decide) (by decide), w2 25 (by decide) (by decide) (by decide) (by decide) (by decide) (by decide)]
          exact p1
        · show PM n hk' VK (b2 24) (b2 25) (b2 26) (f' 23) (b2 27) (b2 28) (b2 29)
          rw [v2 24 (by decide) (by decide) (by decide) (by decide) (by decide) (by decide), v2 25 (by decide) (by decide) (by decide) (by decide) (by decide) (by decide), v2 26 (by decide) (by decide) (by decide) (by decide) (by decide) (by decide), v2 27 (by decide) (by decide) (by decide) (by decide) (by decide) (by decide), v2 28 (by decide) (by decide) (by decide) (by decide) (by decide) (by decide), v2 29 (by decide) (by decide) (by decide) (by decide) (by decide) (by decide)]
          exact p2
  · have hne : ¬ nI kt = nI tw := fun z => he ((nI_eq (by omega) (by omega)).mp z)
    refine ⟨-103, (f, g, a), (f', g', a'), ?_, ?_, Rel_mono _ _ _ h0⟩
    · unfold F_X11_restore
      rw [if_neg ne0, if_neg (by rw [k3, c2]; exact hne)]
    · unfold F_X12_restore
      rw [if_neg ne1, if_neg (by rw [k5, c3]; exact hne)]
