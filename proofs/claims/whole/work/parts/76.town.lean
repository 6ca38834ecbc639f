/-! ===== 76: town ===== -/
theorem clr_up {r : Nat → Int32} {j : Nat} (h : ∀ i, i < j → r i = 0) : ∀ i, i < j + 1 → upd r j 0 i = 0 := by
  intro i hi
  by_cases c : i = j
  · subst c; rw [upd_s]
  · rw [upd_n _ _ c]; exact h i (by omega)
theorem clear_eq (f : Nat → Int32) (g : Nat → Int64) (a : Nat → Nat → Int32) : ∃ a2, F_X3_clear f g a = some (upd (upd (upd (upd f 6 0) 7 0) 8 0) 9 0, g, a2) ∧ (∀ t, t ≠ 14 → t ≠ 15 → t ≠ 16 → a2 t = a t) ∧ ∀ i, i < 5 → a2 14 i = 0 ∧ a2 15 i = 0 ∧ a2 16 i = 0 := by
  unfold F_X3_clear N_X3_clear_2
  refine Exists.elim (lp_inv (b := fun q2 : (Int32 × ST) => B_X3_clear_2 q2.2.1 q2.2.2.1 q2.2.2.2 q2.1) (fun j s => ∃ aj, s = (nI j, f, g, aj) ∧ (∀ t, t ≠ 14 → t ≠ 15 → t ≠ 16 → aj t = a t) ∧ (∀ i, i < j → aj 14 i = 0) ∧ (∀ i, i < j → aj 15 i = 0) ∧ (∀ i, i < j → aj 16 i = 0)) (fun r => ∃ a2, r = (upd (upd (upd (upd f 6 0) 7 0) 8 0) 9 0, g, a2) ∧ (∀ t, t ≠ 14 → t ≠ 15 → t ≠ 16 → a2 t = a t) ∧ ∀ i, i < 5 → a2 14 i = 0 ∧ a2 15 i = 0 ∧ a2 16 i = 0) 5 ?_ ?_ (by omega) (0, f, g, a) ⟨a, rfl, fun t _ _ _ => rfl, fun i h => absurd h (by omega), fun i h => absurd h (by omega), fun i h => absurd h (by omega)⟩) ?_
  rotate_left 2
  · rintro r ⟨h1, a2, rfl, h2⟩
    exact ⟨a2, h1, h2⟩
  · rintro j hj s ⟨aj, rfl, h0, h1, h2, h3⟩
    refine ⟨(nI (j + 1), f, g, us (us (us aj 14 (upd (aj 14) j 0)) 15 (upd (aj 15) j 0)) 16 (upd (aj 16) j 0)), ?_, _, rfl, ?_, ?_, ?_, ?_⟩
    · unfold B_X3_clear_2
      dsimp only
      rw [if_neg (nle5 hj), nI_1]
      simp only [put_in (n := 5) hj (by omega)]
      rfl
    · intro t q1 q2 q3
      rw [us_n _ _ q3, us_n _ _ q2, us_n _ _ q1, h0 t q1 q2 q3]
    · exact clr_up h1
    · exact clr_up h2
    · exact clr_up h3
  · rintro s ⟨aj, rfl, h0, h1, h2, h3⟩
    refine ⟨_, ?_, aj, rfl, h0, fun i hi => ⟨h1 i hi, h2 i hi, h3 i hi⟩⟩
    unfold B_X3_clear_2
    dsimp only
    rw [if_pos (show (5 : Int32) ≤ nI 5 from nI_le (a := 5) (Nat.le_refl 5) (by omega))]
    rfl
def tW (pg : Nat → Nat) : Nat → Nat → Nat := fun k i => if k = 0 then pg (4 * i + 1) - 48 else if k = 1 then pg (4 * i + 2) - 48 else if k = 7 then (F_X12_kindBy (nI (pg (4 * i)))).toNatClampNeg else 0
theorem kn_c : ∀ c, c < 127 → F_X12_kindBy (nI c) ≠ -1 → F_X12_kindBy (nI c) = nI (F_X12_kindBy (nI c)).toNatClampNeg ∧ (F_X12_kindBy (nI c)).toNatClampNeg < 5 := by decide +kernel
theorem tw_f {pl n : Nat} {pg : Nat → Nat} (hp : pl = 4 * n - 1) (hn : 2 ≤ n) (hP : ∀ i, i < pl → pg i ≤ 126) (hG : ∀ i, i < pl → gok pg i = true) (hD : ∀ i, i < pl → dok pg n i = true) : ∀ i, i < n → F_X12_kindBy (nI (pg (4 * i))) = nI (tW pg 7 i) ∧ tW pg 7 i < 5 ∧ 48 ≤ pg (4 * i + 1) ∧ pg (4 * i + 1) < 48 + n ∧ 48 ≤ pg (4 * i + 2) ∧ pg (4 * i + 2) < 48 + n := by
  intro i hi
  have g0 := hG (4 * i) (by omega)
  have g1 := hG (4 * i + 1) (by omega)
  have g2 := hG (4 * i + 2) (by omega)
  have d1 := hD (4 * i + 1) (by omega)
  have d2 := hD (4 * i + 2) (by omega)
  have p0 := hP (4 * i) (by omega)
  unfold gok at g0 g1 g2
  rw [if_pos (by omega)] at g0
  rw [if_neg (by omega), if_neg (by omega)] at g1 g2
  unfold dok at d1 d2
  rw [if_neg (by omega)] at d1 d2
  have g0 := of_decide_eq_true (Bool.and_eq_true_iff.mp g0).2
  have g1 := of_decide_eq_true (Bool.and_eq_true_iff.mp g1).2
  have g2 := of_decide_eq_true (Bool.and_eq_true_iff.mp g2).2
  have d1 := of_decide_eq_true d1
  have d2 := of_decide_eq_true d2
  obtain ⟨k1, k2⟩ := kn_c _ (show pg (4 * i) < 127 by omega) g0
  exact ⟨k1, k2, g1.1, d1, g2.1, d2⟩
theorem n4 : ∀ j, j < 5 → (4 : Int32) * nI j = nI (4 * j) ∧ (4 : Int32) * nI j + 1 = nI (4 * j + 1) ∧ (4 : Int32) * nI j + 2 = nI (4 * j + 2) ∧ (2 : Int32) * nI j = nI (2 * j) ∧ (2 : Int32) * nI j + 1 = nI (2 * j + 1) := by decide +kernel
def STL (f : Nat → Int32) (g : Nat → Int64) (a : Nat → Nat → Int32) (x t v : Int32) : Option ((Int32 × ST) ⊕ ST) := gd (inB t 5) (some (.inl (x + 1, f, g, us (us (ua a 31 t.toNatClampNeg v) 14 (F_put 5 (a 14) x (F_at 21 (a 13) ((4 : Int32) * x + 1) - 48))) 15 (F_put 5 (a 15) x (F_at 21 (a 13) ((4 : Int32) * x + 2) - 48)))))
theorem stl_k (f : Nat → Int32) (g : Nat → Int64) (a : Nat → Nat → Int32) (x : Int32) {k : Nat} (hk : k < 5) : (if nI k < 0 then N_X9_settle_71 f g a x x else if 5 ≤ nI k then N_X9_settle_71 f g a x x else gd (inB (nI k) 5) (if nI k = 0 then N_X9_settle_72v1 f g a x x else (if nI k = 1 then N_X9_settle_72v2 f g a x x else (if nI k = 2 then N_X9_settle_72v3 f g a x x else (if nI k = 3 then N_X9_settle_72v4 f g a x x else (if nI k = 4 then N_X9_settle_72v5 f g a x x else (none))))))) = STL f g a x x (nI k) := by
  rw [if_neg (nI_pos (by omega)), if_neg (nle5 hk), gd_t (inB_nI hk (by omega))]
  rcases (show k = 0 ∨ k = 1 ∨ k = 2 ∨ k = 3 ∨ k = 4 by omega) with rfl | rfl | rfl | rfl | rfl
  · rw [if_pos (by decide)]; rfl
  · rw [if_neg (by decide), if_pos (by decide)]; rfl
  · rw [if_neg (by decide), if_neg (by decide), if_pos (by decide)]; rfl
  · rw [if_neg (by decide), if_neg (by decide), if_neg (by decide), if_pos (by decide)]; rfl
  · rw [if_neg (by decide), if_neg (by decide), if_neg (by decide), if_neg (by decide), if_pos (by decide)]; rfl
theorem ad_up {r : Nat → Int32} {w : Nat → Int32} {j : Nat} {v : Int32} (h : ∀ i, i < j → r i = w i) (hv : v = w j) : ∀ i, i < j + 1 → upd r j v i = w i := by
  intro i hi
  by_cases c : i = j
  · subst c; rw [upd_s, hv]
  · rw [upd_n _ _ c]; exact h i (by omega)
theorem settle_eq {pl n : Nat} {f : Nat → Int32} (g : Nat → Int64) {a : Nat → Nat → Int32} {pg : Nat → Nat} (hp : pl = 4 * n - 1) (hn : 2 ≤ n) (hn5 : n ≤ 5) (s1 : f 4 = nI pl) (hP : ∀ i, i < pl → a 13 i = nI (pg i)) (hW : ∀ i, i < n → F_X12_kindBy (nI (pg (4 * i))) = nI (tW pg 7 i) ∧ tW pg 7 i < 5 ∧ 48 ≤ pg (4 * i + 1) ∧ pg (4 * i + 1) < 48 + n ∧ 48 ≤ pg (4 * i + 2) ∧ pg (4 * i + 2) < 48 + n) (hc : ∀ i, i < pl → pg i < 127) : ∃ a2, F_X9_settle f g a = some (upd (upd (upd (upd (upd f 6 0) 7 0) 8 0) 9 0) 5 (nI n), g, a2) ∧ (∀ t, t ≠ 14 → t ≠ 15 → t ≠ 16 → t ≠ 31 → a2 t = a t) ∧ ∀ i, i < n → a2 31 i = nI (tW pg 7 i) ∧ a2 14 i = nI (tW pg 0 i) ∧ a2 15 i = nI (tW pg 1 i) ∧ a2 16 i = 0 := by
  obtain ⟨a1, w1, w2, w3⟩ := clear_eq f g a
  unfold F_X9_settle
  rw [w1]
  simp only [Option.bind_some]
  have ep : F_X5_people (upd (upd (upd (upd f 6 0) 7 0) 8 0) 9 0) g a1 = nI n := by
    show (f 4 + 1) / 4 = nI n
    rw [s1, nI_1, div4 _ (by omega), show (pl + 1) / 4 = n by omega]
  rw [ep, if_neg (show ¬ (5 : Int32) < nI n from nI_nlt (a := 5) (by omega) (by omega))]
  unfold N_X9_settle_21
  refine Exists.elim (lp_inv (b := fun q21 : (Int32 × ST) => B_X9_settle_21 q21.2.1 q21.2.2.1 q21.2.2.2 q21.1) (fun j s => ∃ aj, s = (nI j, upd (upd (upd (upd (upd f 6 0) 7 0) 8 0) 9 0) 5 (nI n), g, aj) ∧ (∀ t, t ≠ 14 → t ≠ 15 → t ≠ 31 → aj t = a1 t) ∧ (∀ i, i < j → aj 31 i = nI (tW pg 7 i)) ∧ (∀ i, i < j → aj 14 i = nI (tW pg 0 i)) ∧ (∀ i, i < j → aj 15 i = nI (tW pg 1 i))) (fun r => ∃ a2, r = (upd (upd (upd (upd (upd f 6 0) 7 0) 8 0) 9 0) 5 (nI n), g, a2) ∧ (∀ t, t ≠ 14 → t ≠ 15 → t ≠ 16 → t ≠ 31 → a2 t = a t) ∧ ∀ i, i < n → a2 31 i = nI (tW pg 7 i) ∧ a2 14 i = nI (tW pg 0 i) ∧ a2 15 i = nI (tW pg 1 i) ∧ a2 16 i = 0) n ?_ ?_ (by omega) (0, upd (upd (upd (upd (upd f 6 0) 7 0) 8 0) 9 0) 5 (nI n), g, a1) ⟨a1, rfl, fun t _ _ _ => rfl, fun i h => absurd h (by omega), fun i h => absurd h (by omega), fun i h => absurd h (by omega)⟩) ?_
  rotate_left 2
  · rintro r ⟨h1, a2, rfl, h2⟩
    exact ⟨a2, h1, h2⟩
  · rintro j hj s ⟨aj, rfl, h0, h1, h2, h3⟩
    obtain ⟨k1, k2, k3, k4, k5, k6⟩ := hW j hj
    obtain ⟨m1, m2, m3, _, _⟩ := n4 j (by omega)
    have e13 : aj 13 = a 13 := by rw [h0 13 (by decide) (by decide) (by decide), w2 13 (by decide) (by decide) (by decide)]
    refine ⟨(nI (j + 1), upd (upd (upd (upd (upd f 6 0) 7 0) 8 0) 9 0) 5 (nI n), g, us (us (ua aj 31 j (nI (tW pg 7 j))) 14 (upd (aj 14) j (nI (tW pg 0 j)))) 15 (upd (aj 15) j (nI (tW pg 1 j)))), ?_, _, rfl, ?_, ?_, ?_, ?_⟩
    · unfold B_X9_settle_21
      dsimp only
      rw [if_neg (by rw [upd_s]; exact nlt' hj (by omega)), if_neg (nle5 (by omega))]
      have ek : F_X5_kindAt (upd (upd (upd (upd (upd f 6 0) 7 0) 8 0) 9 0) 5 (nI n)) g aj (nI j) = some (nI (tW pg 7 j)) := by
        unfold F_X5_kindAt
        rw [m1, at_in (show 4 * j < 21 by omega) (by omega), e13, hP _ (by omega), ks_eq _ (hc _ (by omega)), k1]
      rw [ek]
      simp only [Option.bind_some]
      rw [stl_k _ _ _ _ k2]
      unfold STL
      rw [gd_t (inB_nI (show j < 5 by omega) (by omega)), m2, m3, e13, at_in (show 4 * j + 1 < 21 by omega) (by omega), at_in (show 4 * j + 2 < 21 by omega) (by omega), hP _ (by omega), hP _ (by omega), put_in (show j < 5 by omega) (by omega), put_in (show j < 5 by omega) (by omega), nI_clamp (by omega), nI_1, show nI (pg (4 * j + 1)) - (48 : Int32) = nI (pg (4 * j + 1) - 48) from pk_sub (b := 48) k3, show nI (pg (4 * j + 2)) - (48 : Int32) = nI (pg (4 * j + 2) - 48) from pk_sub (b := 48) k5]
      rfl
    · intro t q1 q2 q3
      rw [us_n _ _ q2, us_n _ _ q1, ua_n _ _ _ q3, h0 t q1 q2 q3]
    · exact ad_up (w := fun i => nI (tW pg 7 i)) h1 rfl
    · exact ad_up (w := fun i => nI (tW pg 0 i)) h2 rfl
    · exact ad_up (w := fun i => nI (tW pg 1 i)) h3 rfl
  · rintro s ⟨aj, rfl, h0, h1, h2, h3⟩
    refine ⟨_, ?_, aj, rfl, ?_, ?_⟩
    · unfold B_X9_settle_21
      dsimp only
      rw [if_pos (by rw [upd_s]; exact nI_le (Nat.le_refl _) (by omega))]
      rfl
    · intro t q1 q2 q3 q4
      rw [h0 t q1 q2 q4, w2 t q1 q2 q3]
    · intro i hi
      refine ⟨h1 i hi, h2 i hi, h3 i hi, ?_⟩
      rw [h0 16 (by decide) (by decide) (by decide)]
      exact (w3 i (by omega)).2.2
theorem townM_eq {pl n : Nat} {f : Nat → Int32} (g : Nat → Int64) {a : Nat → Nat → Int32} {pg : Nat → Nat} (hp : pl = 4 * n - 1) (hn : 2 ≤ n) (hn5 : n ≤ 5) (s1 : f 1 = nI n) (hP : ∀ i, i < pl → a 15 i = nI (pg i)) (hW : ∀ i, i < n → F_X12_kindBy (nI (pg (4 * i))) = nI (tW pg 7 i) ∧ tW pg 7 i < 5 ∧ 48 ≤ pg (4 * i + 1) ∧ pg (4 * i + 1) < 48 + n ∧ 48 ≤ pg (4 * i + 2) ∧ pg (4 * i + 2) < 48 + n) : ∃ a2, N_X12_town_35 f g a 0 = some (nI n, upd (upd (upd (upd (upd f 0 (f 0 + 1)) 6 0) 7 0) 8 0) 14 0, g, a2) ∧ (∀ t, t ≠ 2 → t ≠ 3 → t ≠ 4 → t ≠ 5 → a2 t = a t) ∧ ∀ i, i < n → a2 2 i = nI (tW pg 7 i) ∧ a2 3 (2 * i) = nI (tW pg 0 i) ∧ a2 3 (2 * i + 1) = nI (tW pg 1 i) ∧ a2 5 i = 0 ∧ a2 4 i = 0 := by
  unfold N_X12_town_35
  refine Exists.elim (lp_inv (b := fun q35 : (Int32 × ST) => B_X12_town_35 q35.2.1 q35.2.2.1 q35.2.2.2 q35.1) (fun j s => ∃ aj, s = (nI j, f, g, aj) ∧ (∀ t, t ≠ 2 → t ≠ 3 → t ≠ 4 → t ≠ 5 → aj t = a t) ∧ (∀ i, i < j → aj 2 i = nI (tW pg 7 i)) ∧ (∀ i, i < j → aj 3 (2 * i) = nI (tW pg 0 i) ∧ aj 3 (2 * i + 1) = nI (tW pg 1 i)) ∧ (∀ i, i < j → aj 5 i = 0) ∧ (∀ i, i < j → aj 4 i = 0)) (fun r => ∃ a2, r = (nI n, upd (upd (upd (upd (upd f 0 (f 0 + 1)) 6 0) 7 0) 8 0) 14 0, g, a2) ∧ (∀ t, t ≠ 2 → t ≠ 3 → t ≠ 4 → t ≠ 5 → a2 t = a t) ∧ ∀ i, i < n → a2 2 i = nI (tW pg 7 i) ∧ a2 3 (2 * i) = nI (tW pg 0 i) ∧ a2 3 (2 * i + 1) = nI (tW pg 1 i) ∧ a2 5 i = 0 ∧ a2 4 i = 0) n ?_ ?_ (by omega) (0, f, g, a) ⟨a, rfl, fun t _ _ _ _ => rfl, fun i h => absurd h (by omega), fun i h => absurd h (by omega), fun i h => absurd h (by omega), fun i h => absurd h (by omega)⟩) ?_
  rotate_left 2
  · rintro r ⟨h1, a2, rfl, h2⟩
    exact ⟨a2, h1, h2⟩
  · rintro j hj s ⟨aj, rfl, h0, h1, h2, h3, h4⟩
    obtain ⟨k1, k2, k3, k4, k5, k6⟩ := hW j hj
    obtain ⟨m1, m2, m3, m4, m5⟩ := n4 j (by omega)
    have m3' := m3
    rw [m1] at m3'
    have e15 : aj 15 = a 15 := h0 15 (by decide) (by decide) (by decide) (by decide)
    refine ⟨(nI (j + 1), f, g, ua (ua (ua (ua (ua aj 2 j (nI (tW pg 7 j))) 3 (2 * j) (nI (tW pg 0 j))) 3 (2 * j + 1) (nI (tW pg 1 j))) 4 j 0) 5 j 0), ?_, _, rfl, ?_, ?_, ?_, ?_, ?_⟩
    · unfold B_X12_town_35
      dsimp only
      rw [if_neg (by rw [s1]; exact nlt' hj (by omega))]
      simp only [m1, m2, m3, m3', m4, m5, gd_t (inB_nI (show 4 * j < 21 by omega) (by omega)), gd_t (inB_nI (show j < 5 by omega) (by omega)), gd_t (inB_nI (show 4 * j + 1 < 21 by omega) (by omega)), gd_t (inB_nI (show 2 * j < 10 by omega) (by omega)), gd_t (inB_nI (show 4 * j + 2 < 21 by omega) (by omega)), gd_t (inB_nI (show 2 * j + 1 < 10 by omega) (by omega)), nI_clamp (show 4 * j < 2 ^ 31 by omega), nI_clamp (show 4 * j + 1 < 2 ^ 31 by omega), nI_clamp (show 4 * j + 2 < 2 ^ 31 by omega), nI_clamp (show 2 * j < 2 ^ 31 by omega), nI_clamp (show 2 * j + 1 < 2 ^ 31 by omega), nI_clamp (show j < 2 ^ 31 by omega), nI_1, ua_n _ _ _ (show 15 ≠ 2 by decide), ua_n _ _ _ (show 15 ≠ 3 by decide), e15, hP (4 * j) (by omega), hP (4 * j + 1) (by omega), hP (4 * j + 2) (by omega), k1]
      rw [show nI (pg (4 * j + 1)) - (48 : Int32) = nI (pg (4 * j + 1) - 48) from pk_sub (b := 48) k3, show nI (pg (4 * j + 2)) - (48 : Int32) = nI (pg (4 * j + 2) - 48) from pk_sub (b := 48) k5]
      rfl
    · intro t q1 q2 q3 q4
      rw [ua_n _ _ _ q4, ua_n _ _ _ q3, ua_n _ _ _ q2, ua_n _ _ _ q2, ua_n _ _ _ q1, h0 t q1 q2 q3 q4]
    · exact ad_up (w := fun i => nI (tW pg 7 i)) h1 rfl
    · intro i hi
      show upd (upd (aj 3) (2 * j) (nI (tW pg 0 j))) (2 * j + 1) (nI (tW pg 1 j)) (2 * i) = _ ∧ upd (upd (aj 3) (2 * j) (nI (tW pg 0 j))) (2 * j + 1) (nI (tW pg 1 j)) (2 * i + 1) = _
      by_cases c : i = j
      · subst c
        rw [upd_n _ _ (show 2 * i ≠ 2 * i + 1 by omega), upd_s, upd_s]
        exact ⟨rfl, rfl⟩
      · rw [upd_n _ _ (show 2 * i ≠ 2 * j + 1 by omega), upd_n _ _ (show 2 * i ≠ 2 * j by omega), upd_n _ _ (show 2 * i + 1 ≠ 2 * j + 1 by omega), upd_n _ _ (show 2 * i + 1 ≠ 2 * j by omega)]
        exact h2 i (by omega)
    · exact clr_up h3
    · exact clr_up h4
  · rintro s ⟨aj, rfl, h0, h1, h2, h3, h4⟩
    refine ⟨_, ?_, aj, rfl, h0, fun i hi => ⟨h1 i hi, (h2 i hi).1, (h2 i hi).2, h3 i hi, h4 i hi⟩⟩
    unfold B_X12_town_35
    dsimp only
    rw [if_pos (by rw [s1]; exact nI_le (Nat.le_refl _) (by omega))]
    show some (Sum.inr (f 1, _)) = _
    rw [s1]
theorem enc_0 {r : Nat → Nat} (h : ∀ i, r i = 0) : ∀ n, enc r n = 0
  | 0 => rfl
  | n + 1 => by
    rw [show enc r (n + 1) = enc r n + r n * 4 ^ (4 - n) from rfl, enc_0 h n, h n, Nat.zero_mul]
theorem s_town : st_town Rel := by
  intro k hk f g a f' g' a' h
  have h0 := h
  obtain ⟨n0, hd, tw, mv, dy, pl, V, pg, hT, hX, hM, hB, hC, hG, hK⟩ := h
  obtain ⟨r, r1, r2, r3, r4⟩ := flt_eq (g := g) (g' := g') hG
  obtain ⟨wX, wM⟩ := whl_eq (g := g) (g' := g') hG
  obtain ⟨h21, s1, s2, hP⟩ := hG
  have s1 : f 4 = nI pl := s1
  have s2 : f' 14 = nI pl := s2
  by_cases hw : 7 ≤ pl ∧ pl % 4 = 3
  · by_cases hr : r = pl
    · obtain ⟨r5, r6⟩ := r4 hr
      have r6 := r6 hw.1 hw.2
      obtain ⟨n, hn⟩ : ∃ n, n = (pl + 1) / 4 := ⟨_, rfl⟩
      rw [← hn] at r6
      have hW := tw_f (n := n) (show pl = 4 * n - 1 by omega) (by omega) (fun i hi => (hP i hi).2.2.2) r5 r6
      obtain ⟨a2, v1, v2, v3⟩ := settle_eq (f := f) g (a := a) (show pl = 4 * n - 1 by omega) (by omega) (by omega) s1 (fun i hi => (hP i hi).1) hW (fun i hi => by have := (hP i hi).2.2.2; omega)
      obtain ⟨b2, u1, u2, u3⟩ := townM_eq (f := upd f' 1 (nI n)) g' (a := a') (show pl = 4 * n - 1 by omega) (by omega) (by omega) rfl (fun i hi => (hP i hi).2.1) hW
      obtain ⟨c1, c2, c3, c4, c5, c6, c7, c8, c9, c10, c11⟩ := hC
      have c2 : f 0 = nI tw := c2
      have c3 : f' 0 = nI tw := c3
      refine ⟨nI n, (upd (upd (upd (upd (upd (upd (upd f 6 0) 7 0) 8 0) 9 0) 5 (nI n)) 4 0) 0 (f 0 + 1), g, a2), (upd (upd (upd (upd (upd (upd f' 1 (nI n)) 0 (f' 0 + 1)) 6 0) 7 0) 8 0) 14 0, g', b2), ?_, ?_, ?_⟩
      · unfold F_X11_town F_X5_isTown
        rw [wX, decide_eq_true hw, if_neg (by decide), r2, hr]
        simp only [Option.bind_some]
        rw [if_pos s1.symm]
        simp only [Option.bind_some]
        rw [if_neg (by decide), v1]
        rfl
      · unfold F_X12_town
        rw [wM, decide_eq_true hw, if_neg (by decide), r3, hr]
        simp only [Option.bind_some]
        rw [if_pos s2.symm, s2, nI_1, div4 _ (by omega), ← hn]
        exact u1
      · refine ⟨n, 0, tw + 1, mv, dy, 0, tW pg, pg, ⟨by omega, rfl, rfl, fun i hi => ⟨(v3 i hi).1, (u3 i hi).1, (hW i hi).2.1⟩⟩, ⟨fun i hi => ⟨(v3 i hi).2.1, (v3 i hi).2.2.1, (v3 i hi).2.2.2⟩, ?_, rfl, fun i hi => absurd hi (by omega)⟩, ⟨fun i hi => ⟨(u3 i hi).2.1, (u3 i hi).2.2.1, (u3 i hi).2.2.2.1, (u3 i hi).2.2.2.2⟩, rfl, fun i hi => absurd hi (by omega)⟩, ⟨by omega, fun i hi => ?_, fun i hi => absurd hi (by omega)⟩, ⟨by omega, ?_, ?_, c4, c5, c6, c7, c8, c9, rfl, rfl⟩, ⟨by omega, rfl, rfl, fun i hi => absurd hi (by omega)⟩, ⟨fun _ => by omega, ?_⟩⟩
        · show (0 : Int32) = nI (enc (tW pg 3) n)
          rw [enc_0 (r := tW pg 3) (fun _ => rfl)]
          rfl
        · obtain ⟨k1, k2, k3, k4, k5, k6⟩ := hW i hi
          show pg (4 * i + 1) - 48 < n ∧ pg (4 * i + 2) - 48 < n ∧ 0 < 32 ∧ 0 < 4
          omega
        · show f 0 + 1 = nI (tw + 1)
          rw [c2, nI_1]
        · show f' 0 + 1 = nI (tw + 1)
          rw [c3, nI_1]
        · rcases hK.2 with ⟨z1, z2⟩ | ⟨kt, z1, z2, z3, z4, z5, z6⟩
          · exact Or.inl ⟨z1, z2⟩
          · exact Or.inr ⟨kt, z1, by omega, z3, z4, z5, fun z => absurd z (by omega)⟩
    · refine ⟨-103, (f, g, a), (f', g', a'), ?_, ?_, Rel_mono _ _ _ h0⟩
      · unfold F_X11_town F_X5_isTown
        rw [wX, decide_eq_true hw, if_neg (by decide), r2]
        simp only [Option.bind_some]
        rw [if_neg (fun z => hr ((nI_eq (by omega) (by omega)).mp (z.trans s1)))]
        rfl
      · unfold F_X12_town
        rw [wM, decide_eq_true hw, if_neg (by decide), r3]
        simp only [Option.bind_some]
        rw [if_neg (fun z => hr ((nI_eq (by omega) (by omega)).mp (z.trans s2)))]
  · refine ⟨-103, (f, g, a), (f', g', a'), ?_, ?_, Rel_mono _ _ _ h0⟩
    · unfold F_X11_town F_X5_isTown
      rw [wX, decide_eq_false hw, if_pos (by decide)]
      rfl
    · unfold F_X12_town
      rw [wM, decide_eq_false hw, if_pos (by decide)]
