/-! ===== 71: years, the step ===== -/
theorem yM_3 {n s T : Nat} {V : Nat → Nat → Nat} {f : Nat → Int32} {g : Nat → Int64} {a : Nat → Nat → Int32} (h : LMv n V f a) (hs : s < 2 ^ 31) (hn0 : 0 < n) (hT2 : T ≤ 60) (x3 : Int32) : ∃ g2 a2, F_X12_yearsNow f g a (nI T) (nI s) x3 = (if x3 = 0 then some (nI (ytg V n s T), f, g2, a2) else if x3 = 1 then some (nI (yc V n s T), f, g2, a2) else some (nI (ysd s T), f, g2, a2)) ∧ (∀ t, t ≠ 4 → t ≠ 18 → a2 t = a t) ∧ ∀ i, i < n → a2 4 i = a 4 i := by
  have hn := h.1.1
  have h1 := h.1.2.1
  unfold F_X12_yearsNow N_X12_yearsNow_3
  refine Exists.elim (lp_inv (b := fun q3 : (Int32 × ST) => B_X12_yearsNow_3 q3.2.1 q3.2.2.1 q3.2.2.2 (nI T) (nI s) x3 q3.1) (fun j x => ∃ aj, x = (nI j, f, g, aj) ∧ (∀ t, t ≠ 18 → aj t = a t) ∧ ∀ i, i < j → aj 18 i = a 4 i) (fun r => ∃ g2 a2, some r = (if x3 = 0 then some (nI (ytg V n s T), f, g2, a2) else if x3 = 1 then some (nI (yc V n s T), f, g2, a2) else some (nI (ysd s T), f, g2, a2)) ∧ (∀ t, t ≠ 4 → t ≠ 18 → a2 t = a t) ∧ ∀ i, i < n → a2 4 i = a 4 i) n ?_ ?_ (by omega) (0, f, g, a) ⟨a, rfl, fun t _ => rfl, fun i h => absurd h (by omega)⟩) ?_
  rotate_left 2
  · rintro r ⟨w1, g2, a2, w2, w3⟩
    exact ⟨g2, a2, w1.trans w2, w3⟩
  · rintro j hj x ⟨aj, rfl, h0, h2⟩
    have e1 := h0 4 (by decide)
    refine ⟨(nI (j + 1), f, g, ua aj 18 j (aj 4 j)), ?_, _, rfl, ?_, ?_⟩
    · unfold B_X12_yearsNow_3
      dsimp only
      rw [if_neg (by rw [h1]; exact nlt' hj (by omega)), nI_1]
      simp only [gd_t (inB_nI (k := j) (n := 5) (by omega) (by omega)), nI_clamp (show j < 2 ^ 31 by omega)]
    · intro t q1
      rw [ua_n _ _ _ q1, h0 t q1]
    · rw [e1]; exact cp_up h2
  · rintro x ⟨aj, rfl, h0, h2⟩
    have lm : LMv n V f aj := by
      refine ⟨⟨hn, h1, fun i hi => ?_⟩, fun i hi => ?_⟩
      · rw [h0 2 (by decide), h0 5 (by decide)]
        exact h.1.2.2 i hi
      · rw [h0 3 (by decide), h0 4 (by decide)]
        exact h.2 i hi
    obtain ⟨g2, a2, w1, w2, w3⟩ := yM_44 (g := vp_updL g 17 ((nI s).toInt64)) (s := s) lm (by rw [pk_uLs, nI_l hs]) hn0 hT2 x3
    have w4 : ∀ t, t ≠ 4 → t ≠ 18 → a2 t = a t := fun t q q2 => by rw [w2 t q, h0 t q2]
    have w5 : ∀ i, i < n → a2 4 i = a 4 i := fun i hi => by rw [w3 i hi, h2 i hi]
    have key : B_X12_yearsNow_3 f g aj (nI T) (nI s) x3 (nI n) = Option.map Sum.inr (N_X12_yearsNow_44 f (vp_updL g 17 ((nI s).toInt64)) aj (nI T) x3 0 0) := by
      unfold B_X12_yearsNow_3
      rw [if_pos (by rw [h1]; exact nI_le (Nat.le_refl n) (by omega))]
    rw [w1] at key
    by_cases q0 : x3 = 0
    · rw [if_pos q0] at key
      exact ⟨_, key, g2, a2, by rw [if_pos q0], w4, w5⟩
    · by_cases q1 : x3 = 1
      · rw [if_neg q0, if_pos q1] at key
        exact ⟨_, key, g2, a2, by rw [if_neg q0, if_pos q1], w4, w5⟩
      · rw [if_neg q0, if_neg q1] at key
        exact ⟨_, key, g2, a2, by rw [if_neg q0, if_neg q1], w4, w5⟩
theorem s_years : st_years Rel := by
  intro k hk f g a f' g' a' x y z h
  have h0 := h
  obtain ⟨n, hd, tw, mv, dy, pl, V, pg, hT, hX, hM, hB, hC, hG, hK⟩ := h
  have lx : LXv n V f a := Rel_lx (f' := f') (a' := a') hT hX hB
  have lm : LMv n V f' a' := Rel_lm (f := f) (a := a) hT hM hB
  have hR : ∀ j, j < n → V 3 j < 4 := fun j hj => (hB.2.1 j hj).2.2.2
  have e5 : f 5 = nI n := hT.2.1
  have e1 : f' 1 = nI n := hT.2.2.1
  have hn := hT.1
  rcases w_case x 1 60 (by omega) (by omega) with ⟨hw, hz⟩ | ⟨T, hT1, hT2, rfl, hz⟩
  · have hz : F_X12_within x 1 60 = 0 := hz
    refine ⟨-102, (f, g, a), (f', g', a'), ?_, ?_, Rel_mono _ _ _ h0⟩
    · unfold F_X11_years
      by_cases c1 : x < 1
      · rw [if_pos c1]
      · rw [if_neg c1, if_pos]
        rcases hw with hw | hw
        · exact absurd hw c1
        · exact hw
    · unfold F_X12_years
      rw [if_pos hz]
  have hz : F_X12_within (nI T) 1 60 = 1 := hz
  have t1 : ¬ nI T < (1 : Int32) := nI_nlt (b := 1) hT1 (by omega)
  have t2 : ¬ (60 : Int32) < nI T := nI_nlt (a := 60) hT2 (by omega)
  by_cases hy : y < 0
  · refine ⟨-102, (f, g, a), (f', g', a'), ?_, ?_, Rel_mono _ _ _ h0⟩
    · unfold F_X11_years
      rw [if_neg t1, if_neg t2, if_pos hy]
    · unfold F_X12_years
      rw [if_neg (by rw [hz]; decide), if_pos hy]
  obtain ⟨s, hs, rfl⟩ := nI_of hy
  rcases w_case z 0 2 (by omega) (by omega) with ⟨hw, hz2⟩ | ⟨w, _, hw2, rfl, hz2⟩
  · have hz2 : F_X12_within z 0 2 = 0 := hz2
    refine ⟨-102, (f, g, a), (f', g', a'), ?_, ?_, Rel_mono _ _ _ h0⟩
    · unfold F_X11_years
      rw [if_neg t1, if_neg t2, if_neg hy]
      by_cases c1 : z < 0
      · rw [if_pos c1]
      · rw [if_neg c1, if_neg]
        rcases hw with hw | hw
        · exact absurd hw c1
        · exact m_ltL (b := 2) (by omega) hw
    · unfold F_X12_years
      rw [if_neg (by rw [hz]; decide), if_neg hy, if_pos hz2]
  have hz2 : F_X12_within (nI w) 0 2 = 1 := hz2
  have u1 : ¬ nI w < (0 : Int32) := nI_pos (by omega)
  have u2 : nI w ≤ (2 : Int32) := nI_le (b := 2) hw2 (by omega)
  rcases Nat.eq_zero_or_pos n with hn0 | hn0
  · subst hn0
    refine ⟨-103, (f, g, a), (f', g', a'), ?_, ?_, Rel_mono _ _ _ h0⟩
    · unfold F_X11_years
      rw [if_neg t1, if_neg t2, if_neg hy, if_neg u1, if_pos u2, if_pos (show f 5 = 0 from e5)]
    · unfold F_X12_years
      rw [if_neg (by rw [hz]; decide), if_neg hy, if_neg (by rw [hz2]; decide), if_pos (show f' 1 = 0 from e1)]
  have ne0 : ¬ nI n = 0 := fun z => by have := (nz (by omega)).mp z; omega
  obtain ⟨f2, p1, p2, p3, p4, p5⟩ := play_eq (g := g) lx hX.2.1 hR hn0 (s := s) (T := T) (by omega) hT1 hT2
  obtain ⟨g2, a2, q1, q2, q3⟩ := yM_3 (g := g') (s := s) (T := T) lm hs hn0 hT2 (nI w)
  have hRel : Rel (k + 4) (f2, g, a) (f', g2, a2) := by
    obtain ⟨c1, c2, c3, c4, c5, c6, c7, c8, c9, c10, c11⟩ := hC
    refine ⟨n, hd, tw, mv, dy, pl, V, pg, ?_, ?_, ?_, hB, ⟨Nat.le_trans c1 (by omega), ?_, c3, c4, ?_, c6, c7, ?_, c9, ?_, ?_⟩, ?_, ?_⟩
    · show RT n (f2 5) (f' 1) (a 31) (a2 2) V
      rw [p5 5 (by decide) (by decide) (by decide), q2 2 (by decide) (by decide)]
      exact hT
    · show PX n hd V (a 14) (a 15) (a 16) (f2 6) (f2 7) (a 17) (a 18) (a 19)
      rw [p5 6 (by decide) (by decide) (by decide), p5 7 (by decide) (by decide) (by decide)]
      exact hX
    · show PM n hd V (a2 3) (a2 4) (a2 5) (f' 8) (a2 9) (a2 10) (a2 11)
      rw [q2 3 (by decide) (by decide), q2 5 (by decide) (by decide), q2 9 (by decide) (by decide), q2 10 (by decide) (by decide), q2 11 (by decide) (by decide)]
      refine ⟨fun i hi => ?_, hM.2⟩
      rw [q3 i hi]
      exact hM.1 i hi
    · exact (p5 0 (by decide) (by decide) (by decide)).trans c2
    · exact (p5 2 (by decide) (by decide) (by decide)).trans c5
    · exact (p5 3 (by decide) (by decide) (by decide)).trans c8
    · exact (p5 8 (by decide) (by decide) (by decide)).trans c10
    · exact (p5 9 (by decide) (by decide) (by decide)).trans c11
    · show RG pl (f2 4) (f' 14) (a 13) (a2 15) pg
      rw [p5 4 (by decide) (by decide) (by decide), q2 15 (by decide) (by decide)]
      exact hG
    · show RK n tw f2 f' a a2
      unfold RK
      rw [p5 1 (by decide) (by decide) (by decide), p5 10 (by decide) (by decide) (by decide), p5 11 (by decide) (by decide) (by decide), p5 12 (by decide) (by decide) (by decide), p5 13 (by decide) (by decide) (by decide), q2 24 (by decide) (by decide), q2 25 (by decide) (by decide), q2 26 (by decide) (by decide), q2 27 (by decide) (by decide), q2 28 (by decide) (by decide), q2 29 (by decide) (by decide)]
      exact hK
  have eX : F_X11_years f g a (nI T) (nI s) (nI w) = if nI w = 0 then some (f2 19, f2, g, a) else (if nI w = 1 then some (f2 20, f2, g, a) else (some (f2 18, f2, g, a))) := by
    unfold F_X11_years
    rw [if_neg t1, if_neg t2, if_neg hy, if_neg u1, if_pos u2, if_neg (by rw [e5]; exact ne0), p1]
    rfl
  have eM : F_X12_years f' g' a' (nI T) (nI s) (nI w) = (if nI w = 0 then some (nI (ytg V n s T), f', g2, a2) else if nI w = 1 then some (nI (yc V n s T), f', g2, a2) else some (nI (ysd s T), f', g2, a2)) := by
    unfold F_X12_years
    rw [if_neg (by rw [hz]; decide), if_neg hy, if_neg (by rw [hz2]; decide), if_neg (by rw [e1]; exact ne0), q1]
    by_cases c0 : nI w = 0
    · rw [if_pos c0]; rfl
    · by_cases c1 : nI w = 1
      · rw [if_neg c0, if_pos c1]; rfl
      · rw [if_neg c0, if_neg c1]; rfl
  by_cases c0 : nI w = 0
  · refine ⟨nI (ytg V n s T), (f2, g, a), (f', g2, a2), ?_, ?_, hRel⟩
    · rw [eX, if_pos c0, p3]
    · rw [eM, if_pos c0]
  · by_cases c1 : nI w = 1
    · refine ⟨nI (yc V n s T), (f2, g, a), (f', g2, a2), ?_, ?_, hRel⟩
      · rw [eX, if_neg c0, if_pos c1, p4]
      · rw [eM, if_neg c0, if_pos c1]
    · refine ⟨nI (ysd s T), (f2, g, a), (f', g2, a2), ?_, ?_, hRel⟩
      · rw [eX, if_neg c0, if_neg c1, p2]
      · rw [eM, if_neg c0, if_neg c1]
