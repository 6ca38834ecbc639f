/-! ===== 67: about, count ===== -/
def abv (V : Nat → Nat → Nat) (n p w : Nat) : Int32 :=
  if w = 0 then nI (V 7 p) else if w = 1 then nI (V 0 p) else if w = 2 then nI (V 1 p) else if w = 3 then nI (V 3 p) else if w = 4 then nI (V 2 p)
  else if w = 5 then bi (wv V p (cset (sameR (V 3) p) n)) else if w = 6 then nI (cset (sameR (V 3) p) n) else if w = 7 then nI (lo V p n) else nI (wan V n p (2 ^ n) &&& (2 ^ p ^^^ 4294967295))
theorem ci_enc {n p : Nat} {R : Nat → Nat} {f : Nat → Int32} {g : Nat → Int64} {a : Nat → Nat → Int32} (hn : n ≤ 5) (h5 : f 5 = nI n) (hR : ∀ i, i < n → R i < 4) (hp : p < n) : F_X9_companyIn f g a (nI (enc R n)) (nI p) = some (nI (cset (sameR R p) n)) := by
  rw [ci_eq hn h5 (enc_lt hn hR) (by omega), cset_congr n (same_ER hn hR hp)]
theorem kind_eq {n p : Nat} {V : Nat → Nat → Nat} {f : Nat → Int32} {g : Nat → Int64} {a : Nat → Nat → Int32} (h : LXv n V f a) (hp : p < n) : F_X9_kindOf f g a (nI p) = nI (V 7 p) := by
  have hk := (h.1.2.2 p hp).2.1
  unfold F_X9_kindOf
  rw [pa_eq h.1 hp]
  rcases (show V 7 p = 0 ∨ V 7 p = 1 ∨ V 7 p = 2 ∨ V 7 p = 3 ∨ V 7 p = 4 by omega) with q | q | q | q | q <;> rw [q] <;> rfl
theorem tell_eq {n p w : Nat} {V : Nat → Nat → Nat} {f : Nat → Int32} {g : Nat → Int64} {a : Nat → Nat → Int32} (h : LXv n V f a) (h6 : f 6 = nI (enc (V 3) n)) (hR : ∀ i, i < n → V 3 i < 4) (hp : p < n) (hw : w < 9) : F_X11_tellAbout f g a (nI p) (nI w) = some (abv V n p w) := by
  have hn := h.1.1
  obtain ⟨k1, k2, k3, k4⟩ := h.1.2.2 p hp
  obtain ⟨v1, v2, v3, v4⟩ := h.2 p hp
  have c32 : cset (sameR (V 3) p) n < 32 := cset_32 hn (Nat.le_refl n)
  rcases (show w = 0 ∨ w = 1 ∨ w = 2 ∨ w = 3 ∨ w = 4 ∨ w = 5 ∨ w = 6 ∨ w = 7 ∨ w = 8 by omega) with rfl | rfl | rfl | rfl | rfl | rfl | rfl | rfl | rfl
  · show some (F_X9_kindOf f g a (nI p)) = _
    rw [kind_eq h hp]; rfl
  · show some (F_at 5 (a 14) (nI p)) = _
    rw [at_in (by omega) (by omega), v1]; rfl
  · show some (F_at 5 (a 15) (nI p)) = _
    rw [at_in (by omega) (by omega), v2]; rfl
  · show some (F_X11_roomIn (f 6) (nI p)) = _
    rw [h6, roomIn_eq (by have := enc_lt hn hR; omega) (by omega), enc_at hn (by omega) hR, if_pos hp]; rfl
  · show some (F_at 5 (a 16) (nI p)) = _
    rw [at_in (by omega) (by omega), k3]; rfl
  · show ((F_X9_companyIn f g a (f 6) (nI p)).bind fun r7 => if (F_X9_canWrite f g a (nI p) r7) = 0 then some 0 else some 1) = _
    rw [h6, ci_enc hn h.1.2.1 hR hp]
    simp only [Option.bind_some]
    rw [can_eq h hp c32, cset_self hp (decide_eq_true rfl), Bool.true_and]
    show _ = some (bi (wv V p (cset (sameR (V 3) p) n)))
    cases wv V p (cset (sameR (V 3) p) n) <;> rfl
  · show ((F_X9_companyIn f g a (f 6) (nI p)).bind fun r7 => some r7) = _
    rw [h6, ci_enc hn h.1.2.1 hR hp]
    rfl
  · show ((F_X9_lettersOfOthers f g a (nI p)).bind fun r7 => some r7) = _
    rw [letX_eq h hp]
    rfl
  · show ((F_X9_wants f g a (nI p)).bind fun r7 => some r7) = _
    rw [wants_eq h hp]
    rfl
theorem one_eq {n p w : Nat} {V : Nat → Nat → Nat} {f : Nat → Int32} {g : Nat → Int64} {a : Nat → Nat → Int32} (h : LMv n V f a) (hp : p < n) (hw : w < 9) : F_X12_oneNow f g a (nI p) (nI w) = some (abv V n p w) := by
  have hn := h.1.1
  obtain ⟨k1, k2, k3, k4⟩ := h.1.2.2 p hp
  obtain ⟨v1, v2, v3, v4, v5, v6⟩ := h.2 p hp
  have c32 : cset (sameR (V 3) p) n < 32 := cset_32 hn (Nat.le_refl n)
  rcases (show w = 0 ∨ w = 1 ∨ w = 2 ∨ w = 3 ∨ w = 4 ∨ w = 5 ∨ w = 6 ∨ w = 7 ∨ w = 8 by omega) with rfl | rfl | rfl | rfl | rfl | rfl | rfl | rfl | rfl
  · show gd (inB (nI p) 5) (some (a 2 (nI p).toNatClampNeg)) = _
    rw [gd_t (inB_nI (by omega) (by omega)), nI_clamp (by omega), k1]; rfl
  · show gd (inB ((((2 : Int32) * nI p) + nI 1) - (1 : Int32)) 10) (some (a 3 ((((2 : Int32) * nI p) + nI 1) - (1 : Int32)).toNatClampNeg)) = _
    have e : (((2 : Int32) * nI p) + nI 1) - (1 : Int32) = nI (2 * p) := by
      rw [show (2 : Int32) * nI p = nI (2 * p) from pk_mul 2 p, nI_add]
      exact pk_sub (a := 2 * p + 1) (b := 1) (by omega)
    rw [e, gd_t (inB_nI (by omega) (by omega)), nI_clamp (by omega), v1]; rfl
  · show gd (inB ((((2 : Int32) * nI p) + nI 2) - (1 : Int32)) 10) (some (a 3 ((((2 : Int32) * nI p) + nI 2) - (1 : Int32)).toNatClampNeg)) = _
    have e : (((2 : Int32) * nI p) + nI 2) - (1 : Int32) = nI (2 * p + 1) := by
      rw [show (2 : Int32) * nI p = nI (2 * p) from pk_mul 2 p, nI_add]
      exact pk_sub (a := 2 * p + 2) (b := 1) (by omega)
    rw [e, gd_t (inB_nI (by omega) (by omega)), nI_clamp (by omega), v2]; rfl
  · show gd (inB (nI p) 5) (some (a 4 (nI p).toNatClampNeg)) = _
    rw [gd_t (inB_nI (by omega) (by omega)), nI_clamp (by omega), v5]; rfl
  · show gd (inB (nI p) 5) (some (a 5 (nI p).toNatClampNeg)) = _
    rw [gd_t (inB_nI (by omega) (by omega)), nI_clamp (by omega), k3]; rfl
  · show ((F_X12_isWrittenNow f g a (nI p)).bind fun r7 => if r7 = 0 then some 0 else some 1) = _
    rw [now_eq h hp]
    show _ = some (bi (wv V p (cset (sameR (V 3) p) n)))
    cases wv V p (cset (sameR (V 3) p) n) <;> rfl
  · show ((F_X12_companyOf f g a (nI p)).bind fun r7 => some r7) = _
    rw [co_eq h hp]
    rfl
  · show ((F_X12_lettersOf f g a (nI p)).bind fun r7 => some r7) = _
    rw [letM_eq h hp]
    rfl
  · show ((F_X12_wantsOf f g a (nI p)).bind fun r7 => some r7) = _
    rw [wantsM_eq h hp]
    rfl
theorem s_about : st_about Rel := by
  intro k hk f g a f' g' a' x y h
  have h0 := h
  obtain ⟨n, hd, tw, mv, dy, pl, V, pg, hT, hX, hM, hB, hC, hG, hK⟩ := h
  have lx : LXv n V f a := Rel_lx (f' := f') (a' := a') hT hX hB
  have lm : LMv n V f' a' := Rel_lm (f := f) (a := a) hT hM hB
  have hR : ∀ j, j < n → V 3 j < 4 := fun j hj => (hB.2.1 j hj).2.2.2
  rcases p_case (f := f) (f' := f') (g := g) (g' := g') (a := a) (a' := a') hT.1 hT.2.1 hT.2.2.1 x with ⟨z1, z2⟩ | ⟨p, hp, rfl, z1, z2⟩
  · refine ⟨-101, ?_, ?_, Rel_mono _ _ _ h0⟩
    · unfold F_X11_about
      rw [if_pos z1]
    · unfold F_X12_about
      rw [if_pos z2]
  rcases w_case y 0 8 (by omega) (by omega) with ⟨hw, hz⟩ | ⟨w, h1, h2, rfl, hz⟩
  · have hz : F_X12_within y 0 8 = 0 := hz
    refine ⟨-102, ?_, ?_, Rel_mono _ _ _ h0⟩
    · unfold F_X11_about
      rw [if_neg (by rw [z1]; decide)]
      by_cases c1 : y < 0
      · rw [if_pos c1]
      · rw [if_neg c1, if_neg]
        rcases hw with hw | hw
        · exact absurd hw c1
        · exact m_gtL (b := 8) (by omega) hw
    · unfold F_X12_about
      rw [if_neg (by rw [z2]; decide), if_pos hz]
  have hz : F_X12_within (nI w) 0 8 = 1 := hz
  refine ⟨abv V n p w, ?_, ?_, Rel_mono _ _ _ h0⟩
  · unfold F_X11_about
    rw [if_neg (by rw [z1]; decide), if_neg (nI_pos (by omega)), if_pos (show nI w < (9 : Int32) from nI_lt (b := 9) (by omega) (by omega)), tell_eq lx hX.2.1 hR hp (by omega)]
    rfl
  · unfold F_X12_about
    rw [if_neg (by rw [z2]; decide), if_neg (by rw [hz]; decide), one_eq lm hp (by omega)]
    rfl
theorem hmE_eq {n : Nat} {V : Nat → Nat → Nat} {f : Nat → Int32} {g : Nat → Int64} {a : Nat → Nat → Int32} (h : LXv n V f a) {R : Nat → Nat} (hR : ∀ i, i < n → R i < 4) : F_X9_howManyWritten f g a (nI (enc R n)) = some (nI (cnt (fun p => wv V p (cset (sameR R p) n)) n)) := by
  rw [hm_eq h (enc_lt h.1.1 hR)]
  congr 2
  apply cnt_congr
  intro p hp
  show wv V p _ = wv V p _
  rw [cset_congr n (same_ER h.1.1 hR hp)]
def cov (V : Nat → Nat → Nat) (n : Nat) (f : Nat → Int32) (w : Nat) : Int32 :=
  if w = 0 then f 5 else if w = 1 then nI (cnt (fun p => wv V p (cset (sameR (V 3) p) n)) n) else if w = 2 then nI (pq V n) / 2 else if w = 3 then f 8 else if w = 4 then f 9 else if w = 5 then f 7 else if w = 6 then f 4 else if w = 7 then f 0 else if w = 8 then f 2 else f 3
theorem cntX_eq {n w : Nat} {V : Nat → Nat → Nat} {f : Nat → Int32} {g : Nat → Int64} {a : Nat → Nat → Int32} (h : LXv n V f a) (h6 : f 6 = nI (enc (V 3) n)) (hR : ∀ i, i < n → V 3 i < 4) (hw : w < 10) : F_X11_count f g a (nI w) = some (cov V n f w) := by
  rcases (show w = 0 ∨ w = 1 ∨ w = 2 ∨ w = 3 ∨ w = 4 ∨ w = 5 ∨ w = 6 ∨ w = 7 ∨ w = 8 ∨ w = 9 by omega) with rfl | rfl | rfl | rfl | rfl | rfl | rfl | rfl | rfl | rfl
  · rfl
  · show ((F_X9_howManyWritten f g a (f 6)).bind fun r => some r) = _
    rw [h6, hmE_eq h hR]
    rfl
  · show ((F_X9_quarrellingPairs f g a).bind fun r => some r) = _
    rw [prX_eq h]
    rfl
  all_goals rfl
theorem cntM_eq {n w : Nat} {V : Nat → Nat → Nat} {f f' : Nat → Int32} {g' : Nat → Int64} {a' : Nat → Nat → Int32} (h : LMv n V f' a') (e5 : f 5 = f' 1) (e8 : f 8 = f' 6) (e9 : f 9 = f' 7) (e7 : f 7 = f' 8) (e4 : f 4 = f' 14) (e0 : f 0 = f' 0) (e2 : f 2 = f' 12) (e3 : f 3 = f' 13) (hw : w < 10) : F_X12_howMany f' g' a' (nI w) = some (cov V n f w) := by
  rcases (show w = 0 ∨ w = 1 ∨ w = 2 ∨ w = 3 ∨ w = 4 ∨ w = 5 ∨ w = 6 ∨ w = 7 ∨ w = 8 ∨ w = 9 by omega) with rfl | rfl | rfl | rfl | rfl | rfl | rfl | rfl | rfl | rfl
  · show some (f' 1) = some (f 5)
    rw [e5]
  · show ((F_X12_writtenAll f' g' a').bind fun r => some r) = _
    rw [wa_eq h]
    rfl
  · show ((F_X12_pairs f' g' a').bind fun r => some r) = _
    rw [prM_eq h]
    rfl
  · show some (f' 6) = some (f 8)
    rw [e8]
  · show some (f' 7) = some (f 9)
    rw [e9]
  · show some (f' 8) = some (f 7)
    rw [e7]
  · show some (f' 14) = some (f 4)
    rw [e4]
  · show some (f' 0) = some (f 0)
    rw [e0]
  · show some (f' 12) = some (f 2)
    rw [e2]
  · show some (f' 13) = some (f 3)
    rw [e3]
theorem cnt_out {f : Nat → Int32} {g : Nat → Int64} {a : Nat → Nat → Int32} {f' : Nat → Int32} {g' : Nat → Int64} {a' : Nat → Nat → Int32} {x : Int32} (h : ∀ w, w < 10 → ¬ x = nI w) : F_X11_count f g a x = some (-102) ∧ F_X12_howMany f' g' a' x = some (-102) := by
  unfold F_X11_count F_X12_howMany
  have q : ∀ (w : Nat), w < 10 → ¬ x = nI w := h
  rw [if_neg (show ¬ x = 0 from q 0 (by omega)), if_neg (show ¬ x = 1 from q 1 (by omega)), if_neg (show ¬ x = 2 from q 2 (by omega)), if_neg (show ¬ x = 3 from q 3 (by omega)), if_neg (show ¬ x = 4 from q 4 (by omega)), if_neg (show ¬ x = 5 from q 5 (by omega)), if_neg (show ¬ x = 6 from q 6 (by omega)), if_neg (show ¬ x = 7 from q 7 (by omega)), if_neg (show ¬ x = 8 from q 8 (by omega)), if_neg (show ¬ x = 9 from q 9 (by omega)), if_neg (show ¬ x = 0 from q 0 (by omega)), if_neg (show ¬ x = 1 from q 1 (by omega)), if_neg (show ¬ x = 2 from q 2 (by omega)), if_neg (show ¬ x = 3 from q 3 (by omega)), if_neg (show ¬ x = 4 from q 4 (by omega)), if_neg (show ¬ x = 5 from q 5 (by omega)), if_neg (show ¬ x = 6 from q 6 (by omega)), if_neg (show ¬ x = 7 from q 7 (by omega)), if_neg (show ¬ x = 8 from q 8 (by omega)), if_neg (show ¬ x = 9 from q 9 (by omega))]
  exact ⟨rfl, rfl⟩
theorem s_count : st_count Rel := by
  intro k hk f g a f' g' a' x h
  have h0 := h
  obtain ⟨n, hd, tw, mv, dy, pl, V, pg, hT, hX, hM, hB, hC, hG, hK⟩ := h
  have lx : LXv n V f a := Rel_lx (f' := f') (a' := a') hT hX hB
  have lm : LMv n V f' a' := Rel_lm (f := f) (a := a) hT hM hB
  have hR : ∀ j, j < n → V 3 j < 4 := fun j hj => (hB.2.1 j hj).2.2.2
  obtain ⟨c1, c2, c3, c4, c5, c6, c7, c8, c9, c10, c11⟩ := hC
  by_cases hw : ∃ w, w < 10 ∧ x = nI w
  · obtain ⟨w, hw, rfl⟩ := hw
    refine ⟨cov V n f w, cntX_eq lx hX.2.1 hR hw, ?_, Rel_mono _ _ _ h0⟩
    unfold F_X12_count
    rw [cntM_eq (f := f) lm (hT.2.1.trans hT.2.2.1.symm) c10 c11 (hX.2.2.1.trans hM.2.1.symm) (hG.2.1.trans hG.2.2.1.symm) (c2.trans c3.symm) (c5.trans c6.symm) (c8.trans c9.symm) hw]
    rfl
  · obtain ⟨q1, q2⟩ := cnt_out (f := f) (g := g) (a := a) (f' := f') (g' := g') (a' := a') (x := x) (fun w hw2 e => hw ⟨w, hw2, e⟩)
    refine ⟨-102, q1, ?_, Rel_mono _ _ _ h0⟩
    unfold F_X12_count
    rw [q2]
    rfl
