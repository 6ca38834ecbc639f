/-! ===== 63: sell, quarrel, hear ===== -/
theorem upd_s (r : Nat → Int32) (i : Nat) (v : Int32) : upd r i v i = v := by unfold upd; rw [if_pos rfl]
theorem upd_n (r : Nat → Int32) {i j : Nat} (v : Int32) (h : j ≠ i) : upd r i v j = r j := by unfold upd; rw [if_neg h]
theorem nup_s (r : Nat → Nat) (i v : Nat) : nup r i v i = v := by unfold nup; rw [if_pos rfl]
theorem nup_n (r : Nat → Nat) {i j : Nat} (v : Nat) (h : j ≠ i) : nup r i v j = r j := by unfold nup; rw [if_neg h]
theorem upd_nup {r : Nat → Int32} {w : Nat → Nat} {i v j : Nat} (h : j ≠ i → r j = nI (w j)) : upd r i (nI v) j = nI (nup w i v j) := by
  by_cases c : j = i
  · subst c; rw [upd_s, nup_s]
  · rw [upd_n _ _ c, nup_n _ _ c, h c]
theorem nup_lt {w : Nat → Nat} {i v j b : Nat} (hv : v < b) (h : w j < b) : nup w i v j < b := by
  by_cases c : j = i
  · subst c; rw [nup_s]; exact hv
  · rw [nup_n _ _ c]; exact h
theorem s_sell : st_sell Rel := by
  intro k hk f g a f' g' a' x y z h
  have h0 := h
  obtain ⟨n, hd, tw, mv, dy, pl, V, pg, hT, hX, hM, hB, hC, hG, hK⟩ := h
  have hn := hT.1
  rcases p_case (f := f) (f' := f') (g := g) (g' := g') (a := a) (a' := a') hT.1 hT.2.1 hT.2.2.1 x with ⟨z1, z2⟩ | ⟨p, hp, rfl, z1, z2⟩
  · refine ⟨-101, (f, g, a), (f', g', a'), ?_, ?_, Rel_mono _ _ _ h0⟩
    · unfold F_X11_sell
      rw [if_pos z1]
    · unfold F_X12_sell
      rw [if_pos z2]
  rcases p_case (f := f) (f' := f') (g := g) (g' := g') (a := a) (a' := a') hT.1 hT.2.1 hT.2.2.1 z with ⟨z3, z4⟩ | ⟨q, hq, rfl, z3, z4⟩
  · refine ⟨-101, (f, g, a), (f', g', a'), ?_, ?_, Rel_mono _ _ _ h0⟩
    · unfold F_X11_sell
      rw [if_neg (by rw [z1]; decide), if_pos z3]
    · unfold F_X12_sell
      rw [if_neg (by rw [z2]; decide), if_pos z4]
  rcases w_case y 0 1 (by omega) (by omega) with ⟨hw, hz⟩ | ⟨w, h1, h2, rfl, hz⟩
  · have hz : F_X12_within y 0 1 = 0 := hz
    refine ⟨-102, (f, g, a), (f', g', a'), ?_, ?_, Rel_mono _ _ _ h0⟩
    · unfold F_X11_sell
      rw [if_neg (by rw [z1]; decide), if_neg (by rw [z3]; decide)]
      by_cases c1 : y < 0
      · rw [if_pos c1]
      · rw [if_neg c1, if_neg]
        rcases hw with hw | hw
        · exact absurd hw c1
        · exact m_ltL (b := 1) (by omega) hw
    · unfold F_X12_sell
      rw [if_neg (by rw [z2]; decide), if_neg (by rw [z4]; decide), if_pos hz]
  have hz : F_X12_within (nI w) 0 1 = 1 := hz
  have ei : (2 : Int32) * nI p + nI w = nI (2 * p + w) := by rw [show (2 : Int32) = nI 2 from rfl, pk_mul, nI_add]
  obtain ⟨c1, c2, c3, c4, c5, c6, c7, c8, c9, c10, c11⟩ := hC
  have hC' : RC (k + 4) tw mv dy (upd f 9 (f 9 + 1)) (upd f' 7 (f' 7 + 1)) := ⟨by omega, c2, c3, c4, c5, c6, c7, c8, c9, c10, congrArg (· + 1) c11⟩
  obtain ⟨x1, x2, x3⟩ := hX.1 p hp
  obtain ⟨m1, m2, m3, m4⟩ := hM.1 p hp
  have x1 : a 14 p = nI (V 0 p) := x1
  have x2 : a 15 p = nI (V 1 p) := x2
  have m1 : a' 3 (2 * p) = nI (V 0 p) := m1
  have m2 : a' 3 (2 * p + 1) = nI (V 1 p) := m2
  rcases (show w = 0 ∨ w = 1 by omega) with rfl | rfl
  · refine ⟨nI (V 0 p), (upd f 9 (f 9 + 1), g, us a 14 (upd (a 14) p (nI q))), (upd f' 7 (f' 7 + 1), g', ua a' 3 (2 * p) (nI q)), ?_, ?_, ?_⟩
    · unfold F_X11_sell N_X11_sell_63v1
      rw [if_neg (by rw [z1]; decide), if_neg (by rw [z3]; decide), if_neg (nI_pos (by omega)), if_pos (show nI 0 ≤ (1 : Int32) from nI_le (b := 1) (by omega) (by omega)), if_pos (show nI 0 = (0 : Int32) from rfl), at_in (by omega) (by omega), put_in (by omega) (by omega), x1]
    · unfold F_X12_sell
      rw [if_neg (by rw [z2]; decide), if_neg (by rw [z4]; decide), if_neg (by rw [hz]; decide), ei, gd_t (inB_nI (by omega) (by omega)), gd_t (inB_nI (by omega) (by omega)), nI_clamp (by omega), Nat.add_zero, m1]
    · refine ⟨n, hd, tw, mv, dy, pl, vset V 0 (nup (V 0) p q), pg, hT, ⟨fun i hi => ?_, hX.2⟩, ⟨fun i hi => ?_, hM.2⟩, ⟨hB.1, fun i hi => ?_, hB.2.2⟩, hC', hG, hK⟩
      · obtain ⟨y1, y2, y3⟩ := hX.1 i hi
        exact ⟨upd_nup (fun _ => y1), y2, y3⟩
      · obtain ⟨y1, y2, y3, y4⟩ := hM.1 i hi
        refine ⟨?_, ?_, y3, y4⟩
        · show upd (a' 3) (2 * p) (nI q) (2 * i) = nI (nup (V 0) p q i)
          by_cases c : i = p
          · subst c; rw [upd_s, nup_s]
          · rw [upd_n _ _ (by omega), nup_n _ _ c]; exact y1
        · show upd (a' 3) (2 * p) (nI q) (2 * i + 1) = nI (V 1 i)
          rw [upd_n _ _ (by omega)]; exact y2
      · obtain ⟨y1, y2, y3, y4⟩ := hB.2.1 i hi
        exact ⟨nup_lt hq y1, y2, y3, y4⟩
  · refine ⟨nI (V 1 p), (upd f 9 (f 9 + 1), g, us a 15 (upd (a 15) p (nI q))), (upd f' 7 (f' 7 + 1), g', ua a' 3 (2 * p + 1) (nI q)), ?_, ?_, ?_⟩
    · unfold F_X11_sell N_X11_sell_63
      rw [if_neg (by rw [z1]; decide), if_neg (by rw [z3]; decide), if_neg (nI_pos (by omega)), if_pos (show nI 1 ≤ (1 : Int32) from nI_le (b := 1) (by omega) (by omega)), if_neg (show ¬ nI 1 = (0 : Int32) from by decide), at_in (by omega) (by omega), put_in (by omega) (by omega), x2]
    · unfold F_X12_sell
      rw [if_neg (by rw [z2]; decide), if_neg (by rw [z4]; decide), if_neg (by rw [hz]; decide), ei, gd_t (inB_nI (by omega) (by omega)), gd_t (inB_nI (by omega) (by omega)), nI_clamp (by omega), m2]
    · refine ⟨n, hd, tw, mv, dy, pl, vset V 1 (nup (V 1) p q), pg, hT, ⟨fun i hi => ?_, hX.2⟩, ⟨fun i hi => ?_, hM.2⟩, ⟨hB.1, fun i hi => ?_, hB.2.2⟩, hC', hG, hK⟩
      · obtain ⟨y1, y2, y3⟩ := hX.1 i hi
        exact ⟨y1, upd_nup (fun _ => y2), y3⟩
      · obtain ⟨y1, y2, y3, y4⟩ := hM.1 i hi
        refine ⟨?_, ?_, y3, y4⟩
        · show upd (a' 3) (2 * p + 1) (nI q) (2 * i) = nI (V 0 i)
          rw [upd_n _ _ (by omega)]; exact y1
        · show upd (a' 3) (2 * p + 1) (nI q) (2 * i + 1) = nI (nup (V 1) p q i)
          by_cases c : i = p
          · subst c; rw [upd_s, nup_s]
          · rw [upd_n _ _ (by omega), nup_n _ _ c]; exact y2
      · obtain ⟨y1, y2, y3, y4⟩ := hB.2.1 i hi
        exact ⟨y1, nup_lt hq y2, y3, y4⟩
def nf (o b : Nat) (z : Int32) : Nat := if z = 0 then o &&& (2 ^ b ^^^ 4294967295) else o ||| 2 ^ b
theorem nf_a : ∀ o, o < 32 → ∀ b, b < 5 → ((o &&& (2 ^ b ^^^ 4294967295)) ||| 2 ^ b) = o ||| 2 ^ b := by decide +kernel
theorem nf_b : ∀ o, o < 32 → ∀ b, b < 5 → (o &&& (2 ^ b ^^^ 4294967295)) < 32 ∧ (o ||| 2 ^ b) < 32 := by decide +kernel
theorem nf_lt {o b : Nat} {z : Int32} (ho : o < 32) (hb : b < 5) : nf o b z < 32 := by
  unfold nf
  split
  · exact (nf_b o ho b hb).1
  · exact (nf_b o ho b hb).2
theorem with_eq {o b : Nat} {z : Int32} (hb : b < 5) : F_X12_with (nI o) (nI b) z = nI (nf o b z) := by
  unfold F_X12_with nf
  rw [m_shl1 (by omega), m_m1, m_xor, m_and, m_or]
  split <;> rfl
theorem setFoe_eq {f : Nat → Int32} {g : Nat → Int64} {a : Nat → Nat → Int32} {p b o : Nat} {z : Int32} (hp : p < 5) (hb : b < 5) (ho : o < 32) (h : a 16 p = nI o) : F_X3_setFoe f g a (nI p) (nI b) z = some (f, g, us a 16 (upd (a 16) p (nI (nf o b z)))) := by
  unfold F_X3_setFoe N_X3_setFoe_36
  rw [at_in hp (by omega), h, m_shl1 (by omega), m_m1, m_xor, m_and, m_or, put_in hp (by omega), put_in hp (by omega), nf_a o ho b hb]
  unfold nf
  split <;> rfl
theorem s_quarrel : st_quarrel Rel := by
  intro k hk f g a f' g' a' x y z h hzz
  have h0 := h
  obtain ⟨n, hd, tw, mv, dy, pl, V, pg, hT, hX, hM, hB, hC, hG, hK⟩ := h
  have hn := hT.1
  rcases p_case (f := f) (f' := f') (g := g) (g' := g') (a := a) (a' := a') hT.1 hT.2.1 hT.2.2.1 x with ⟨z1, z2⟩ | ⟨p, hp, rfl, z1, z2⟩
  · refine ⟨-101, (f, g, a), (f', g', a'), ?_, ?_, Rel_mono _ _ _ h0⟩
    · unfold F_X11_quarrel
      rw [if_pos z1]
    · unfold F_X12_quarrel
      rw [if_pos z2]
  rcases p_case (f := f) (f' := f') (g := g) (g' := g') (a := a) (a' := a') hT.1 hT.2.1 hT.2.2.1 y with ⟨z3, z4⟩ | ⟨q, hq, rfl, z3, z4⟩
  · refine ⟨-101, (f, g, a), (f', g', a'), ?_, ?_, Rel_mono _ _ _ h0⟩
    · unfold F_X11_quarrel
      rw [if_neg (by rw [z1]; decide), if_pos z3]
    · unfold F_X12_quarrel
      rw [if_neg (by rw [z2]; decide), if_pos z4]
  by_cases hpq : p = q
  · subst hpq
    refine ⟨-101, (f, g, a), (f', g', a'), ?_, ?_, Rel_mono _ _ _ h0⟩
    · unfold F_X11_quarrel
      rw [if_neg (by rw [z1]; decide), if_neg (by rw [z3]; decide), if_pos rfl]
    · unfold F_X12_quarrel
      rw [if_neg (by rw [z2]; decide), if_neg (by rw [z4]; decide), if_pos rfl]
  have hne : ¬ nI p = nI q := fun e => hpq ((nI_eq (by omega) (by omega)).mp e)
  have xp : a 16 p = nI (V 2 p) := (hX.1 p hp).2.2
  have xq : a 16 q = nI (V 2 q) := (hX.1 q hq).2.2
  have mp : a' 5 p = nI (V 2 p) := (hM.1 p hp).2.2.1
  have mq : a' 5 q = nI (V 2 q) := (hM.1 q hq).2.2.1
  have bp := (hB.2.1 p hp).2.2.1
  have bq := (hB.2.1 q hq).2.2.1
  refine ⟨(nI (V 2 p) >>> (nI q &&& 31)) &&& 1, (f, g, us (us a 16 (upd (a 16) p (nI (nf (V 2 p) q z)))) 16 (upd (upd (a 16) p (nI (nf (V 2 p) q z))) q (nI (nf (V 2 q) p z)))), (f', g', ua (ua a' 5 p (nI (nf (V 2 p) q z))) 5 q (nI (nf (V 2 q) p z))), ?_, ?_, ?_⟩
  · unfold F_X11_quarrel
    rw [if_neg (by rw [z1]; decide), if_neg (by rw [z3]; decide), if_neg hne, setFoe_eq (by omega) (by omega) bp xp]
    show (F_X3_setFoe f g (us a 16 (upd (a 16) p (nI (nf (V 2 p) q z)))) (nI q) (nI p) z).bind _ = _
    have e2 : us a 16 (upd (a 16) p (nI (nf (V 2 p) q z))) 16 q = nI (V 2 q) := by
      show upd (a 16) p (nI (nf (V 2 p) q z)) q = nI (V 2 q)
      rw [upd_n _ _ (fun e => hpq e.symm)]; exact xq
    rw [setFoe_eq (by omega) (by omega) bq e2, at_in (by omega) (by omega), xp]
    rfl
  · unfold F_X12_quarrel
    rw [if_neg (by rw [z2]; decide), if_neg (by rw [z4]; decide), if_neg hne, gd_t (inB_nI (by omega) (by omega)), gd_t (inB_nI (by omega) (by omega)), gd_t (inB_nI (by omega) (by omega)), gd_t (inB_nI (by omega) (by omega)), gd_t (inB_nI (by omega) (by omega)), nI_clamp (by omega), nI_clamp (by omega), mp, with_eq (by omega)]
    have e2 : ua a' 5 p (nI (nf (V 2 p) q z)) 5 q = nI (V 2 q) := by
      show upd (a' 5) p (nI (nf (V 2 p) q z)) q = nI (V 2 q)
      rw [upd_n _ _ (fun e => hpq e.symm)]; exact mq
    rw [e2, with_eq (by omega)]
  · refine ⟨n, hd, tw, mv, dy, pl, vset V 2 (nup (nup (V 2) p (nf (V 2 p) q z)) q (nf (V 2 q) p z)), pg, hT, ⟨fun i hi => ?_, hX.2⟩, ⟨fun i hi => ?_, hM.2⟩, ⟨hB.1, fun i hi => ?_, hB.2.2⟩, ⟨Nat.le_trans hC.1 (by omega), hC.2⟩, hG, hK⟩
    · obtain ⟨y1, y2, y3⟩ := hX.1 i hi
      exact ⟨y1, y2, upd_nup (fun _ => upd_nup (fun _ => y3))⟩
    · obtain ⟨y1, y2, y3, y4⟩ := hM.1 i hi
      exact ⟨y1, y2, upd_nup (fun _ => upd_nup (fun _ => y3)), y4⟩
    · obtain ⟨y1, y2, y3, y4⟩ := hB.2.1 i hi
      exact ⟨y1, y2, nup_lt (nf_lt bq (by omega)) (nup_lt (nf_lt bp (by omega)) y3), y4⟩
theorem isIn_eq {c p : Nat} (hc : c < 2 ^ 31) (hp : p < 32) : F_X12_isIn (nI c) (nI p) = bi (c.testBit p) := by
  unfold F_X12_isIn
  rw [m_bit hc hp]
  cases c.testBit p <;> rfl
theorem isCo_eq {n c p : Nat} {f : Nat → Int32} {g : Nat → Int64} {a : Nat → Nat → Int32} (hs : F_X9_isSetOfPeople f g a (nI c) = 1) (hc : c < 2 ^ 31) (hp : p < 32) : F_X9_isCompanyOf f g a (nI p) (nI c) = bi (c.testBit p) := by
  unfold F_X9_isCompanyOf
  rw [hs, if_neg (by decide), m_bit hc hp]
  cases c.testBit p <;> rfl
theorem s_hear : st_hear Rel := by
  intro k hk f g a f' g' a' x y z h hzz
  have h0 := h
  obtain ⟨n, hd, tw, mv, dy, pl, V, pg, hT, hX, hM, hB, hC, hG, hK⟩ := h
  have hn := hT.1
  have h32 := (pow5 hn).1
  rcases p_case (f := f) (f' := f') (g := g) (g' := g') (a := a) (a' := a') hT.1 hT.2.1 hT.2.2.1 x with ⟨z1, z2⟩ | ⟨p, hp, rfl, z1, z2⟩
  · refine ⟨-101, (f, g, a), (f', g', a'), ?_, ?_, Rel_mono _ _ _ h0⟩
    · unfold F_X11_hear
      rw [if_pos z1]
    · unfold F_X12_hear
      rw [if_pos z2]
  rcases c_case (f := f) (f' := f') (g := g) (g' := g') (a := a) (a' := a') hT.1 hT.2.1 hT.2.2.1 y with ⟨z3, z4⟩ | ⟨c, hc, rfl, z3, z4⟩
  · refine ⟨-102, (f, g, a), (f', g', a'), ?_, ?_, Rel_mono _ _ _ h0⟩
    · unfold F_X11_hear F_X9_isCompanyOf
      rw [if_neg (by rw [z1]; decide), if_pos (by rw [if_pos z3])]
    · unfold F_X12_hear
      rw [if_neg (by rw [z2]; decide), if_pos z4]
  have eC := isCo_eq (n := n) (p := p) z3 (by omega) (by omega)
  have eI := isIn_eq (c := c) (p := p) (by omega) (by omega)
  have e7 : f 7 = nI hd := hX.2.2.1
  have e8 : f' 8 = nI hd := hM.2.1
  have h6 := hB.1
  cases ht : c.testBit p with
  | false =>
    rw [ht] at eC eI
    have eC : F_X9_isCompanyOf f g a (nI p) (nI c) = 0 := eC
    have eI : F_X12_isIn (nI c) (nI p) = 0 := eI
    refine ⟨-102, (f, g, a), (f', g', a'), ?_, ?_, Rel_mono _ _ _ h0⟩
    · unfold F_X11_hear
      rw [if_neg (by rw [z1]; decide), if_pos eC]
    · unfold F_X12_hear
      rw [if_neg (by rw [z2]; decide), if_neg (by rw [z4]; decide), if_pos eI]
  | true =>
    rw [ht] at eC eI
    have eC : F_X9_isCompanyOf f g a (nI p) (nI c) = 1 := eC
    have eI : F_X12_isIn (nI c) (nI p) = 1 := eI
    rcases Nat.lt_or_ge hd 6 with q | q
    · obtain ⟨zn, hzn, rfl⟩ : ∃ zn, zn < 2 ∧ z = nI zn := by
        rcases hzz with rfl | rfl
        · exact ⟨0, by omega, rfl⟩
        · exact ⟨1, by omega, rfl⟩
      refine ⟨nI (hd + 1), (upd f 7 (nI (hd + 1)), g, us (us (us a 17 (upd (a 17) hd (nI p))) 18 (upd (a 18) hd (nI c))) 19 (upd (a 19) hd (nI zn))), (upd f' 8 (nI (hd + 1)), g', ua (ua (ua a' 9 hd (nI p)) 10 hd (nI c)) 11 hd (nI zn)), ?_, ?_, ?_⟩
      · unfold F_X11_hear F_X3_addHeard N_X3_addHeard_41
        rw [if_neg (by rw [z1]; decide), if_neg (by rw [eC]; decide), e7, if_pos (show nI hd < (6 : Int32) from nI_lt (b := 6) q (by omega))]
        simp only [put_in (n := 6) q (by omega), nI_1]
        rcases (show zn = 0 ∨ zn = 1 by omega) with rfl | rfl <;> rfl
      · unfold F_X12_hear N_X12_hear_79
        rw [if_neg (by rw [z2]; decide), if_neg (by rw [z4]; decide), if_neg (by rw [eI]; decide), e8, if_neg (show ¬ nI hd = (6 : Int32) from fun e => by have := (nI_eq (b := 6) (by omega) (by omega)).mp e; omega)]
        simp only [gd_t (inB_nI (k := hd) (n := 6) q (by omega)), nI_clamp (n := hd) (by omega), e8, nI_1]
        rcases (show zn = 0 ∨ zn = 1 by omega) with rfl | rfl <;> rfl
      · refine ⟨n, hd + 1, tw, mv, dy, pl, vset (vset (vset V 4 (nup (V 4) hd p)) 5 (nup (V 5) hd c)) 6 (nup (V 6) hd zn), pg, hT, ⟨hX.1, hX.2.1, rfl, fun i hi => ?_⟩, ⟨hM.1, rfl, fun i hi => ?_⟩, ⟨by omega, hB.2.1, fun i hi => ?_⟩, ⟨Nat.le_trans hC.1 (by omega), hC.2⟩, hG, hK⟩
        · exact ⟨upd_nup (fun e => (hX.2.2.2 i (by omega)).1), upd_nup (fun e => (hX.2.2.2 i (by omega)).2.1), upd_nup (fun e => (hX.2.2.2 i (by omega)).2.2)⟩
        · exact ⟨upd_nup (fun e => (hM.2.2 i (by omega)).1), upd_nup (fun e => (hM.2.2 i (by omega)).2.1), upd_nup (fun e => (hM.2.2 i (by omega)).2.2)⟩
        · show nup (V 4) hd p i < n ∧ nup (V 5) hd c i < 2 ^ n ∧ (nup (V 5) hd c i).testBit (nup (V 4) hd p i) = true ∧ nup (V 6) hd zn i < 2
          by_cases e : i = hd
          · subst e
            rw [nup_s, nup_s, nup_s]
            exact ⟨hp, hc, ht, hzn⟩
          · rw [nup_n _ _ e, nup_n _ _ e, nup_n _ _ e]
            exact hB.2.2 i (by omega)
    · have q : hd = 6 := by omega
      refine ⟨-104, (f, g, a), (f', g', a'), ?_, ?_, Rel_mono _ _ _ h0⟩
      · unfold F_X11_hear
        rw [if_neg (by rw [z1]; decide), if_neg (by rw [eC]; decide), e7, if_neg (show ¬ nI hd < (6 : Int32) from nI_nlt (b := 6) (by omega) (by omega))]
      · unfold F_X12_hear
        rw [if_neg (by rw [z2]; decide), if_neg (by rw [z4]; decide), if_neg (by rw [eI]; decide), e8, if_pos (show nI hd = (6 : Int32) from by rw [q]; rfl)]
