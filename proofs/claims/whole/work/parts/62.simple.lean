/-! ===== 62: letter, blank, forget, go, sell, quarrel, hear ===== -/
theorem m_ltL {x : Int32} {b : Nat} (hb : b < 2 ^ 31) (h : nI b < x) : ¬ x ≤ nI b := by
  intro z
  rw [Int32.lt_iff_toInt_lt] at h
  rw [Int32.le_iff_toInt_le] at z
  omega
theorem m_gtL {x : Int32} {b : Nat} (hb : b + 1 < 2 ^ 31) (h : nI b < x) : ¬ x < nI (b + 1) := by
  intro z
  rw [Int32.lt_iff_toInt_lt, nI_toInt (by omega)] at h
  rw [Int32.lt_iff_toInt_lt, nI_toInt (by omega)] at z
  omega
theorem m_byte : ∀ j, j < 128 → vp_nar .byte ((nI j).toInt8.toInt32) = nI j := by
  intro j hj
  rw [pk_vb]
  revert j
  decide +kernel
theorem s_letter : st_letter Rel := by
  intro k hk f g a f' g' a' x h
  have h0 := h
  obtain ⟨n, hd, tw, mv, dy, pl, V, pg, hT, hX, hM, hB, hC, hG, hK⟩ := h
  obtain ⟨hp, e4, e14, hpg⟩ := hG
  have e4 : f 4 = nI pl := e4
  have e14 : f' 14 = nI pl := e14
  rcases w_case x 32 126 (by omega) (by omega) with ⟨hw, hz⟩ | ⟨j, h1, h2, rfl, hz⟩
  · have hz : F_X12_within x 32 126 = 0 := hz
    refine ⟨-102, (f, g, a), (f', g', a'), ?_, ?_, Rel_mono _ _ _ h0⟩
    · unfold F_X11_letter
      by_cases c1 : x < 32
      · rw [if_pos c1]
      · rw [if_neg c1, if_neg]
        rcases hw with hw | hw
        · exact absurd hw c1
        · exact m_ltL (b := 126) (by omega) hw
    · unfold F_X12_letter
      rw [if_pos hz]
  · have hz : F_X12_within (nI j) 32 126 = 1 := hz
    rcases Nat.lt_or_ge pl 21 with q | q
    · refine ⟨nI (pl + 1), (upd f 4 (nI (pl + 1)), g, us a 13 (upd (a 13) pl (nI j))), (upd f' 14 (nI (pl + 1)), g', ua a' 15 pl (nI j)), ?_, ?_, ?_⟩
      · unfold F_X11_letter F_X5_add
        rw [if_neg (show ¬ nI j < (32 : Int32) from nI_nlt (b := 32) h1 (by omega)), if_pos (show nI j ≤ (126 : Int32) from nI_le (b := 126) h2 (by omega)), e4, if_pos (show nI pl < (21 : Int32) from nI_lt (b := 21) q (by omega)), put_in q (by omega), nI_1]
        rfl
      · unfold F_X12_letter
        rw [if_neg (by rw [hz]; decide), e14, if_neg (show ¬ nI pl = (21 : Int32) from fun z => by have := (nI_eq (b := 21) (by omega) (by omega)).mp z; omega), gd_t (inB_nI q (by omega)), nI_clamp (by omega), m_byte j (by omega), nI_1]
        rfl
      · refine ⟨n, hd, tw, mv, dy, pl + 1, V, nup pg pl j, hT, hX, hM, hB, ⟨Nat.le_trans hC.1 (by omega), hC.2⟩, ⟨by omega, rfl, rfl, ?_⟩, hK⟩
        intro i hi
        show upd (a 13) pl (nI j) i = nI (nup pg pl j i) ∧ upd (a' 15) pl (nI j) i = nI (nup pg pl j i) ∧ 32 ≤ nup pg pl j i ∧ nup pg pl j i ≤ 126
        unfold upd nup
        by_cases c : i = pl
        · rw [if_pos c, if_pos c, if_pos c]
          exact ⟨rfl, rfl, h1, h2⟩
        · rw [if_neg c, if_neg c, if_neg c]
          exact hpg i (by omega)
    · have q : pl = 21 := by omega
      refine ⟨-104, (f, g, a), (f', g', a'), ?_, ?_, Rel_mono _ _ _ h0⟩
      · unfold F_X11_letter F_X5_add
        rw [if_neg (show ¬ nI j < (32 : Int32) from nI_nlt (b := 32) h1 (by omega)), if_pos (show nI j ≤ (126 : Int32) from nI_le (b := 126) h2 (by omega)), e4, if_neg (show ¬ nI pl < (21 : Int32) from nI_nlt (b := 21) (by omega) (by omega))]
        rfl
      · unfold F_X12_letter
        rw [if_neg (by rw [hz]; decide), e14, if_pos (show nI pl = (21 : Int32) from by rw [q]; rfl)]
theorem s_blank : st_blank Rel := by
  intro k hk f g a f' g' a' h
  obtain ⟨n, hd, tw, mv, dy, pl, V, pg, hT, hX, hM, hB, hC, hG, hK⟩ := h
  have e4 : f 4 = nI pl := hG.2.1
  have e14 : f' 14 = nI pl := hG.2.2.1
  refine ⟨nI pl, (upd f 4 0, g, a), (upd f' 14 0, g', a'), ?_, ?_, n, hd, tw, mv, dy, 0, V, pg, hT, hX, hM, hB, ⟨Nat.le_trans hC.1 (by omega), hC.2⟩, ⟨by omega, rfl, rfl, fun i h => absurd h (by omega)⟩, hK⟩
  · unfold F_X11_blank
    rw [e4]
  · unfold F_X12_blank
    rw [e14]
theorem s_forget : st_forget Rel := by
  intro k hk f g a f' g' a' h
  obtain ⟨n, hd, tw, mv, dy, pl, V, pg, hT, hX, hM, hB, hC, hG, hK⟩ := h
  have e7 : f 7 = nI hd := hX.2.2.1
  have e8 : f' 8 = nI hd := hM.2.1
  refine ⟨nI hd, (upd f 7 0, g, a), (upd f' 8 0, g', a'), ?_, ?_, n, 0, tw, mv, dy, pl, V, pg, hT, ⟨hX.1, hX.2.1, rfl, fun i h => absurd h (by omega)⟩, ⟨hM.1, rfl, fun i h => absurd h (by omega)⟩, ⟨by omega, hB.2.1, fun i h => absurd h (by omega)⟩, ⟨Nat.le_trans hC.1 (by omega), hC.2⟩, hG, hK⟩
  · unfold F_X11_forget
    rw [e7]
  · unfold F_X12_forget
    rw [e8]
theorem s_go : st_go Rel := by
  intro k hk f g a f' g' a' x y h
  have h0 := h
  obtain ⟨n, hd, tw, mv, dy, pl, V, pg, hT, hX, hM, hB, hC, hG, hK⟩ := h
  rcases p_case (f := f) (f' := f') (g := g) (g' := g') (a := a) (a' := a') hT.1 hT.2.1 hT.2.2.1 x with ⟨z1, z2⟩ | ⟨p, hp, rfl, z1, z2⟩
  · refine ⟨-101, (f, g, a), (f', g', a'), ?_, ?_, Rel_mono _ _ _ h0⟩
    · unfold F_X11_go
      rw [if_pos z1]
    · unfold F_X12_go
      rw [if_pos z2]
  · rcases w_case y 0 3 (by omega) (by omega) with ⟨hw, hz⟩ | ⟨r, h1, h2, rfl, hz⟩
    · have hz : F_X12_within y 0 3 = 0 := hz
      refine ⟨-102, (f, g, a), (f', g', a'), ?_, ?_, Rel_mono _ _ _ h0⟩
      · unfold F_X11_go
        rw [if_neg (by rw [z1]; decide)]
        by_cases c1 : y < 0
        · rw [if_pos c1]
        · rw [if_neg c1, if_neg]
          rcases hw with hw | hw
          · exact absurd hw c1
          · exact m_gtL (b := 3) (by omega) hw
      · unfold F_X12_go
        rw [if_neg (by rw [z2]; decide), if_pos hz]
    · have hz : F_X12_within (nI r) 0 3 = 1 := hz
      have hn := hT.1
      have hr : ∀ j, j < n → V 3 j < 4 := fun j hj => (hB.2.1 j hj).2.2.2
      have el := enc_lt hn hr
      have e6 : f 6 = nI (enc (V 3) n) := hX.2.1
      have eR : a' 4 p = nI (V 3 p) := (hM.1 p hp).2.2.2
      refine ⟨nI (V 3 p), (upd (upd f 6 (nI (enc (nup (V 3) p r) n))) 8 (f 8 + 1), g, a), (upd f' 6 (f' 6 + 1), g', ua a' 4 p (nI r)), ?_, ?_, ?_⟩
      · unfold F_X11_go
        rw [if_neg (by rw [z1]; decide), if_neg (nI_pos (by omega)), if_pos (show nI r < (4 : Int32) from nI_lt (b := 4) (by omega) (by omega)), e6, roomIn_eq (by omega) (by omega), enc_at hn (by omega) hr, if_pos hp, withRoom_eq el (by omega) (by omega), enc_up hn hp hr]
        rfl
      · unfold F_X12_go
        rw [if_neg (by rw [z2]; decide), if_neg (by rw [hz]; decide), gd_t (inB_nI (by omega) (by omega)), gd_t (inB_nI (by omega) (by omega)), nI_clamp (by omega), eR]
      · refine ⟨n, hd, tw, mv, dy, pl, vset V 3 (nup (V 3) p r), pg, hT, ⟨hX.1, rfl, hX.2.2⟩, ⟨?_, hM.2⟩, ⟨hB.1, ?_, hB.2.2⟩, ?_, hG, hK⟩
        · intro i hi
          obtain ⟨m1, m2, m3, m4⟩ := hM.1 i hi
          refine ⟨m1, m2, m3, ?_⟩
          show upd (a' 4) p (nI r) i = nI (nup (V 3) p r i)
          unfold upd nup
          by_cases c : i = p
          · rw [if_pos c, if_pos c]
          · rw [if_neg c, if_neg c]
            exact m4
        · intro i hi
          obtain ⟨m1, m2, m3, m4⟩ := hB.2.1 i hi
          refine ⟨m1, m2, m3, ?_⟩
          show nup (V 3) p r i < 4
          unfold nup
          by_cases c : i = p
          · rw [if_pos c]; omega
          · rw [if_neg c]; exact m4
        · obtain ⟨c1, c2, c3, c4, c5, c6, c7, c8, c9, c10, c11⟩ := hC
          exact ⟨by omega, c2, c3, c4, c5, c6, c7, c8, c9, congrArg (· + 1) c10, c11⟩
