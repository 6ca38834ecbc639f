/-! ===== 75: fault ===== -/
theorem ks_eq : ∀ c, c < 127 → F_J0_indexOf_0f7a4 (((nI c).toUInt32 % 65536).toInt32) = some (F_X12_kindBy (nI c)) := by decide +kernel
theorem kb_c : ∀ c, c < 127 → F_X12_kindBy (nI c) = -1 ∨ ∃ k, k < 5 ∧ F_X12_kindBy (nI c) = nI k := by decide +kernel
theorem rem4 : ∀ j, j < 24 → nI j - nI j / 4 * 4 = nI (j % 4) := by decide +kernel
theorem div4 : ∀ j, j < 24 → nI j / 4 = nI (j / 4) := by decide +kernel
theorem dgX : ∀ c, c < 127 → (if nI c - 48 < 0 then (some 0 : Option Int32) else if 5 ≤ nI c - 48 then some 0 else some 1) = some (bi (decide (48 ≤ c ∧ c ≤ 52))) := by decide +kernel
theorem dgM : ∀ c, c < 127 → F_X12_within (nI c - 48) 0 4 = bi (decide (48 ≤ c ∧ c ≤ 52)) := by decide +kernel
theorem kbX : ∀ c, c < 127 → (if F_X12_kindBy (nI c) < 0 then (some 0 : Option Int32) else some 1) = some (bi (decide (F_X12_kindBy (nI c) ≠ -1))) := by decide +kernel
theorem kbM : ∀ c, c < 127 → (if F_X12_kindBy (nI c) = -1 then (some 0 : Option Int32) else some 1) = some (bi (decide (F_X12_kindBy (nI c) ≠ -1))) := by decide +kernel
theorem whX : ∀ j, j < 22 → (if nI j < 7 then (0 : Int32) else if 19 < nI j then 0 else if (nI j &&& 3) = 3 then 1 else 0) = bi (decide (7 ≤ j ∧ j % 4 = 3)) := by decide +kernel
theorem whM : ∀ j, j < 22 → (if nI j - nI j / 4 * 4 = 3 then if nI j ≤ 6 then (0 : Int32) else 1 else 0) = bi (decide (7 ≤ j ∧ j % 4 = 3)) := by decide +kernel
theorem lst (G : Nat → Bool) : ∀ m, (∀ i, i < m → G i = true) ∨ ∃ j, j < m ∧ (∀ i, i < j → G i = true) ∧ G j = false
  | 0 => Or.inl (fun i h => absurd h (by omega))
  | m + 1 => by
    rcases lst G m with h | ⟨j, h1, h2, h3⟩
    · cases q : G m with
      | true =>
        left
        intro i hi
        by_cases c : i = m
        · rw [c, q]
        · exact h i (by omega)
      | false => exact Or.inr ⟨m, by omega, h, q⟩
    · exact Or.inr ⟨j, by omega, h2, h3⟩
def gok (pg : Nat → Nat) (j : Nat) : Bool := decide (j < 19) && (if j % 4 = 0 then decide (F_X12_kindBy (nI (pg j)) ≠ -1) else if j % 4 = 3 then decide (pg j = 44) else decide (48 ≤ pg j ∧ pg j ≤ 52))
def dok (pg : Nat → Nat) (q j : Nat) : Bool := if j % 4 = 0 ∨ j % 4 = 3 then true else decide (pg j < 48 + q)
theorem fit_eq {pl j : Nat} {f f' : Nat → Int32} {g g' : Nat → Int64} {a a' : Nat → Nat → Int32} {pg : Nat → Nat} (h : RG pl (f 4) (f' 14) (a 13) (a' 15) pg) (hj : j < pl) (h19 : j ≤ 19) : F_X5_fits f g a (nI j) = some (bi (gok pg j)) ∧ F_X12_isGood f' g' a' (nI j) = some (bi (gok pg j)) := by
  obtain ⟨h21, s1, s2, hP⟩ := h
  obtain ⟨p1, p2, p3, p4⟩ := hP j hj
  have hc : pg j < 127 := by omega
  have hm : j % 4 = 0 ∨ j % 4 = 3 ∨ (j % 4 ≠ 0 ∧ j % 4 ≠ 3) := by omega
  have eX : j < 19 → F_X5_fits f g a (nI j) = some (bi (gok pg j)) := by
    intro h19'
    unfold F_X5_fits gok
    rw [if_pos (show nI j < (19 : Int32) from nI_lt (b := 19) h19' (by omega)), m_a3, decide_eq_true h19', Bool.true_and]
    rcases hm with q | q | ⟨q1, q2⟩
    · rw [q, if_pos (show nI 0 = (0 : Int32) from rfl), if_pos (show 0 = 0 from rfl), div4 j (by omega)]
      unfold F_X5_kindAt
      rw [show (4 : Int32) * nI (j / 4) = nI j by rw [show (4 : Int32) = nI 4 from rfl, pk_mul, show 4 * (j / 4) = j by omega], at_in (show j < 21 by omega) (by omega), p1, ks_eq _ hc]
      exact kbX _ hc
    · rw [q, if_neg (show ¬ nI 3 = (0 : Int32) by decide), if_pos (show nI 3 = (3 : Int32) from rfl), if_neg (show ¬ 3 = 0 by decide), if_pos (show 3 = 3 from rfl), at_in (show j < 21 by omega) (by omega), p1]
      by_cases w : pg j = 44
      · rw [w]; rfl
      · rw [if_neg (show ¬ nI (pg j) = (44 : Int32) from fun z => w ((nI_eq (b := 44) (by omega) (by omega)).mp z)), decide_eq_false w]; rfl
    · rw [if_neg (fun z => q1 ((nz (by omega)).mp z)), if_neg (show ¬ nI (j % 4) = (3 : Int32) from fun z => q2 ((nI_eq (b := 3) (by omega) (by omega)).mp z)), if_neg q1, if_neg q2]
      unfold F_X5_digitAt
      rw [at_in (show j < 21 by omega) (by omega), p1]
      exact dgX _ hc
  constructor
  · by_cases c : j < 19
    · exact eX c
    · have : j = 19 := by omega
      subst this
      unfold F_X5_fits gok
      rw [if_neg (by decide)]
      rfl
  · unfold F_X12_isGood
    rw [gd_t (inB_nI (show j < 21 by omega) (by omega)), nI_clamp (by omega), p2, rem4 j (by omega)]
    unfold gok
    rcases hm with q | q | ⟨q1, q2⟩
    · rw [q, if_pos (show nI 0 = (0 : Int32) from rfl), if_pos (show 0 = 0 from rfl), decide_eq_true (show j < 19 by omega), Bool.true_and]
      exact kbM _ hc
    · rw [q, if_neg (show ¬ nI 3 = (0 : Int32) by decide), if_pos (show nI 3 = (3 : Int32) from rfl), if_neg (show ¬ 3 = 0 by decide), if_pos (show 3 = 3 from rfl)]
      by_cases w : pg j = 44
      · rw [w, if_pos (show nI 44 = (44 : Int32) from rfl)]
        by_cases c : j < 19
        · rw [if_neg (show ¬ (19 : Int32) ≤ nI j from nlt' (n := 19) c (by omega)), decide_eq_true c]; rfl
        · rw [if_pos (show (19 : Int32) ≤ nI j from nI_le (a := 19) (by omega) (by omega)), decide_eq_false c]; rfl
      · rw [if_neg (show ¬ nI (pg j) = (44 : Int32) from fun z => w ((nI_eq (b := 44) (by omega) (by omega)).mp z)), decide_eq_false w, Bool.and_false]; rfl
    · rw [if_neg (fun z => q1 ((nz (by omega)).mp z)), if_neg (show ¬ nI (j % 4) = (3 : Int32) from fun z => q2 ((nI_eq (b := 3) (by omega) (by omega)).mp z)), if_neg q1, if_neg q2, dgM _ hc, decide_eq_true (show j < 19 by omega), Bool.true_and]
theorem nob_eq {pl : Nat} {f f' : Nat → Int32} {g g' : Nat → Int64} {a a' : Nat → Nat → Int32} {pg : Nat → Nat} (h : RG pl (f 4) (f' 14) (a 13) (a' 15) pg) (hg : ∀ i, i < pl → gok pg i = true) : ∃ r, r ≤ pl ∧ F_X5_firstNobody f g a = some (nI r) ∧ N_X12_faultNow_52 f' g' a' (((f' 14) + (1 : Int32)) / 4) 0 = some (nI r) ∧ (r = pl → ∀ i, i < pl → dok pg ((pl + 1) / 4) i = true) := by
  obtain ⟨h21, s1, s2, hP⟩ := h
  have hd : ∀ j, j < pl → j % 4 ≠ 0 → j % 4 ≠ 3 → 48 ≤ pg j ∧ pg j ≤ 52 := by
    intro j hj q1 q2
    have := hg j hj
    unfold gok at this
    rw [if_neg q1, if_neg q2] at this
    simpa using (Bool.and_eq_true_iff.mp this).2
  have hq : nI pl + (1 : Int32) = nI (pl + 1) := nI_1 pl
  unfold F_X5_firstNobody N_X5_firstNobody_7 F_X5_people N_X12_faultNow_52
  rw [s1, s2, hq, div4 _ (by omega)]
  have st : ∀ j, j < pl → dok pg ((pl + 1) / 4) j = true → B_X5_firstNobody_7 f g a (nI ((pl + 1) / 4)) (nI j) = some (.inl (nI (j + 1))) ∧ B_X12_faultNow_52 f' g' a' (nI ((pl + 1) / 4)) (nI j) = some (.inl (nI (j + 1))) := by
    intro j hj w
    obtain ⟨p1, p2, p3, p4⟩ := hP j hj
    unfold dok at w
    constructor
    · unfold B_X5_firstNobody_7 N_X5_firstNobody_29 N_X5_firstNobody_34 N_X5_firstNobody_50 F_X5_digitAt
      rw [if_neg (by rw [s1]; exact nlt' hj (by omega)), m_a3, at_in (show j < 21 by omega) (by omega), p1, nI_1]
      by_cases q : j % 4 = 0 ∨ j % 4 = 3
      · rcases q with q | q <;> rw [q] <;> rfl
      · obtain ⟨d1, d2⟩ := hd j hj (by omega) (by omega)
        rw [if_neg q] at w
        have w := of_decide_eq_true w
        rw [show nI (pg j) - (48 : Int32) = nI (pg j - 48) from pk_sub (b := 48) d1, if_pos (nI_lt (show pg j - 48 < (pl + 1) / 4 by omega) (by omega))]
        rcases (show j % 4 = 1 ∨ j % 4 = 2 by omega) with q | q <;> rw [q] <;> rfl
    · unfold B_X12_faultNow_52 N_X12_faultNow_86
      rw [if_neg (by rw [s2]; exact nlt' hj (by omega)), rem4 j (by omega), gd_t (inB_nI (show j < 21 by omega) (by omega)), nI_clamp (by omega), p2, nI_1]
      by_cases q : j % 4 = 0 ∨ j % 4 = 3
      · rcases q with q | q <;> rw [q] <;> rfl
      · obtain ⟨d1, d2⟩ := hd j hj (by omega) (by omega)
        rw [if_neg q] at w
        have w := of_decide_eq_true w
        rw [show nI (pg j) - (48 : Int32) = nI (pg j - 48) from pk_sub (b := 48) d1, if_neg (show ¬ nI ((pl + 1) / 4) ≤ nI (pg j - 48) from nlt' (by omega) (by omega))]
        rcases (show j % 4 = 1 ∨ j % 4 = 2 by omega) with q | q <;> rw [q] <;> rfl
  rcases lst (dok pg ((pl + 1) / 4)) pl with hA | ⟨j, hj, hA, hF⟩
  · refine ⟨pl, by omega, ?_, ?_, fun _ => hA⟩
    · refine lp_all (fun j => nI j) pl _ _ rfl (fun j hj => (st j hj (hA j hj)).1) ?_ (by omega)
      unfold B_X5_firstNobody_7
      rw [if_pos (by rw [s1]; exact nI_le (Nat.le_refl _) (by omega)), s1]
      rfl
    · refine lp_all (fun j => nI j) pl _ _ rfl (fun j hj => (st j hj (hA j hj)).2) ?_ (by omega)
      unfold B_X12_faultNow_52
      rw [if_pos (by rw [s2]; exact nI_le (Nat.le_refl _) (by omega))]
      rfl
  · obtain ⟨p1, p2, p3, p4⟩ := hP j hj
    unfold dok at hF
    have q : ¬ (j % 4 = 0 ∨ j % 4 = 3) := fun z => by rw [if_pos z] at hF; cases hF
    rw [if_neg q] at hF
    have hF := of_decide_eq_false hF
    obtain ⟨d1, d2⟩ := hd j hj (by omega) (by omega)
    refine ⟨j, by omega, ?_, ?_, fun z => by omega⟩
    · refine lp_all (fun j => nI j) j _ _ rfl (fun i hi => (st i (by omega) (hA i hi)).1) ?_ (by omega)
      unfold B_X5_firstNobody_7 N_X5_firstNobody_29 N_X5_firstNobody_34 F_X5_digitAt
      rw [if_neg (by rw [s1]; exact nlt' hj (by omega)), m_a3, at_in (show j < 21 by omega) (by omega), p1, show nI (pg j) - (48 : Int32) = nI (pg j - 48) from pk_sub (b := 48) d1, if_neg (nI_nlt (show (pl + 1) / 4 ≤ pg j - 48 by omega) (by omega))]
      rcases (show j % 4 = 1 ∨ j % 4 = 2 by omega) with q | q <;> rw [q] <;> rfl
    · refine lp_all (fun j => nI j) j _ _ rfl (fun i hi => (st i (by omega) (hA i hi)).2) ?_ (by omega)
      unfold B_X12_faultNow_52
      rw [if_neg (by rw [s2]; exact nlt' hj (by omega)), rem4 j (by omega), gd_t (inB_nI (show j < 21 by omega) (by omega)), nI_clamp (by omega), p2, show nI (pg j) - (48 : Int32) = nI (pg j - 48) from pk_sub (b := 48) d1, if_pos (nI_le (show (pl + 1) / 4 ≤ pg j - 48 by omega) (by omega))]
      rcases (show j % 4 = 1 ∨ j % 4 = 2 by omega) with q | q <;> rw [q] <;> rfl
theorem whl_eq {pl : Nat} {f f' : Nat → Int32} {g g' : Nat → Int64} {a a' : Nat → Nat → Int32} {pg : Nat → Nat} (h : RG pl (f 4) (f' 14) (a 13) (a' 15) pg) : F_X5_isWhole f g a = bi (decide (7 ≤ pl ∧ pl % 4 = 3)) ∧ F_X12_isWhole f' g' a' = bi (decide (7 ≤ pl ∧ pl % 4 = 3)) := by
  obtain ⟨h21, s1, s2, hP⟩ := h
  unfold F_X5_isWhole F_X12_isWhole
  rw [s1, s2]
  exact ⟨whX pl (by omega), whM pl (by omega)⟩
theorem flt_eq {pl : Nat} {f f' : Nat → Int32} {g g' : Nat → Int64} {a a' : Nat → Nat → Int32} {pg : Nat → Nat} (h : RG pl (f 4) (f' 14) (a 13) (a' 15) pg) : ∃ r, r ≤ pl ∧ F_X5_firstFault f g a = some (nI r) ∧ F_X12_faultNow f' g' a' = some (nI r) ∧ (r = pl → (∀ i, i < pl → gok pg i = true) ∧ (7 ≤ pl → pl % 4 = 3 → ∀ i, i < pl → dok pg ((pl + 1) / 4) i = true)) := by
  have hR := h
  obtain ⟨h21, s1, s2, hP⟩ := h
  obtain ⟨wX, wM⟩ := whl_eq (g := g) (g' := g') hR
  have h19 : ∀ j, (∀ i, i < j → gok pg i = true) → j ≤ 19 := by
    intro j hA
    rcases Nat.lt_or_ge 19 j with q | q
    · have := hA 19 q
      unfold gok at this
      simp at this
    · exact q
  have stX : ∀ j, j < pl → j ≤ 19 → gok pg j = true → B_X5_firstFault_2 f g a (nI j) = some (.inl (nI (j + 1))) := by
    intro j hj hj' w
    unfold B_X5_firstFault_2
    rw [if_neg (by rw [s1]; exact nlt' hj (by omega)), (fit_eq (g := g) (g' := g') hR hj hj').1, w, nI_1]
    rfl
  have stM : ∀ j, j < pl → j ≤ 19 → gok pg j = true → B_X12_faultNow_2 f' g' a' (nI j) = some (.inl (nI (j + 1))) := by
    intro j hj hj' w
    unfold B_X12_faultNow_2
    rw [if_neg (by rw [s2]; exact nlt' hj (by omega)), (fit_eq (g := g) (g' := g') hR hj hj').2, w, nI_1]
    rfl
  unfold F_X5_firstFault N_X5_firstFault_2 F_X12_faultNow N_X12_faultNow_2
  rcases lst (gok pg) pl with hA | ⟨j, hj, hA, hF⟩
  · have hpl := h19 pl hA
    by_cases hw : 7 ≤ pl ∧ pl % 4 = 3
    · obtain ⟨r, r1, r2, r3, r4⟩ := nob_eq (g := g) (g' := g') hR hA
      refine ⟨r, r1, ?_, ?_, fun z => ⟨hA, fun _ _ => r4 z⟩⟩
      · refine lp_all (fun j => nI j) pl _ _ rfl (fun j hj => stX j hj (by omega) (hA j hj)) ?_ (by omega)
        unfold B_X5_firstFault_2
        rw [if_pos (by rw [s1]; exact nI_le (Nat.le_refl _) (by omega)), wX, decide_eq_true hw, if_neg (by decide), r2]
        rfl
      · refine lp_all (fun j => nI j) pl _ _ rfl (fun j hj => stM j hj (by omega) (hA j hj)) ?_ (by omega)
        unfold B_X12_faultNow_2 N_X12_faultNow_24
        rw [if_pos (by rw [s2]; exact nI_le (Nat.le_refl _) (by omega)), if_neg (by rw [s2]; exact nI_nlt (Nat.le_refl _) (by omega)), wM, decide_eq_true hw, if_neg (by decide), r3]
        rfl
    · refine ⟨pl, by omega, ?_, ?_, fun _ => ⟨hA, fun z1 z2 => absurd ⟨z1, z2⟩ hw⟩⟩
      · refine lp_all (fun j => nI j) pl _ _ rfl (fun j hj => stX j hj (by omega) (hA j hj)) ?_ (by omega)
        unfold B_X5_firstFault_2
        rw [if_pos (by rw [s1]; exact nI_le (Nat.le_refl _) (by omega)), wX, decide_eq_false hw, if_pos (by decide), s1]
        rfl
      · refine lp_all (fun j => nI j) pl _ _ rfl (fun j hj => stM j hj (by omega) (hA j hj)) ?_ (by omega)
        unfold B_X12_faultNow_2 N_X12_faultNow_24
        rw [if_pos (by rw [s2]; exact nI_le (Nat.le_refl _) (by omega)), if_neg (by rw [s2]; exact nI_nlt (Nat.le_refl _) (by omega)), wM, decide_eq_false hw, if_pos (by decide)]
        rfl
  · have hjl := h19 j hA
    refine ⟨j, by omega, ?_, ?_, fun z => by omega⟩
    · refine lp_all (fun j => nI j) j _ _ rfl (fun i hi => stX i (by omega) (by omega) (hA i hi)) ?_ (by omega)
      unfold B_X5_firstFault_2
      rw [if_neg (by rw [s1]; exact nlt' hj (by omega)), (fit_eq (g := g) (g' := g') hR hj hjl).1, hF]
      rfl
    · refine lp_all (fun j => nI j) j _ _ rfl (fun i hi => stM i (by omega) (by omega) (hA i hi)) ?_ (by omega)
      unfold B_X12_faultNow_2 N_X12_faultNow_24
      rw [if_neg (by rw [s2]; exact nlt' hj (by omega)), (fit_eq (g := g) (g' := g') hR hj hjl).2, hF]
      simp only [Option.bind_some]
      rw [if_pos (by decide), if_pos (by rw [s2]; exact nI_lt hj (by omega))]
      rfl
theorem s_fault : st_fault Rel := by
  intro k hk f g a f' g' a' h
  have h0 := h
  obtain ⟨n, hd, tw, mv, dy, pl, V, pg, hT, hX, hM, hB, hC, hG, hK⟩ := h
  obtain ⟨r, r1, r2, r3, _⟩ := flt_eq (g := g) (g' := g') hG
  refine ⟨nI r, ?_, ?_, Rel_mono _ _ _ h0⟩
  · unfold F_X11_fault
    rw [r2]
    rfl
  · unfold F_X12_fault
    rw [r3]
    rfl
