/-! ===== 68: image, restore ===== -/
theorem lp_inv0 {S R : Type} {b : S → Option (S ⊕ R)} (I : Nat → S → Prop) (P : R → Prop) : ∀ (k i : Nat), (∀ j, i ≤ j → j < i + k → ∀ s, I j s → ∃ s', b s = some (.inl s') ∧ I (j + 1) s') → (∀ s, I (i + k) s → ∃ r, b s = some (.inr r) ∧ P r) → ∀ N, k < N → ∀ s, I i s → ∃ r, lpN b N s = some r ∧ P r := by
  intro k
  induction k with
  | zero =>
    intro i _ h2 N hN s hs
    obtain ⟨N, rfl⟩ : ∃ m, N = m + 1 := ⟨N - 1, by omega⟩
    obtain ⟨r, hr, hp⟩ := h2 s hs
    exact ⟨r, lpN_o hr, hp⟩
  | succ k ih =>
    intro i h1 h2 N hN s hs
    obtain ⟨N, rfl⟩ : ∃ m, N = m + 1 := ⟨N - 1, by omega⟩
    obtain ⟨s', h3, h4⟩ := h1 i (Nat.le_refl i) (by omega) s hs
    rw [lpN_i h3]
    exact ih (i + 1) (fun j a b s hs => h1 j (by omega) (by omega) s hs) (fun s hs => h2 s (by rw [show i + (k + 1) = i + 1 + k by omega]; exact hs)) N (by omega) s' h4
theorem lp_inv {S R : Type} {b : S → Option (S ⊕ R)} (I : Nat → S → Prop) (P : R → Prop) (k : Nat) (h1 : ∀ j, j < k → ∀ s, I j s → ∃ s', b s = some (.inl s') ∧ I (j + 1) s') (h2 : ∀ s, I k s → ∃ r, b s = some (.inr r) ∧ P r) (hk : k < 100000) (s : S) (hs : I 0 s) : ∃ r, lpN b kFu s = some r ∧ P r :=
  lp_inv0 I P k 0 (fun j _ hj s hs => h1 j (by omega) s hs) (fun s hs => h2 s (by rw [Nat.zero_add] at hs; exact hs)) kFu hk s hs
theorem cp_up {r src : Nat → Int32} {j : Nat} (h : ∀ i, i < j → r i = src i) : ∀ i, i < j + 1 → upd r j (src j) i = src i := by
  intro i hi
  by_cases c : i = j
  · subst c; rw [upd_s]
  · rw [upd_n _ _ c]; exact h i (by omega)
theorem us_n (a : Nat → Nat → Int32) {j t : Nat} (r : Nat → Int32) (h : t ≠ j) : us a j r t = a t := by unfold us; rw [if_neg h]
theorem ua_n (a : Nat → Nat → Int32) {j t : Nat} (i : Nat) (v : Int32) (h : t ≠ j) : ua a j i v t = a t := by unfold ua; rw [if_neg h]
theorem nle5 {j : Nat} (h : j < 5) : ¬ (5 : Int32) ≤ nI j := nlt' (n := 5) h (by omega)
theorem nle6 {j : Nat} (h : j < 6) : ¬ (6 : Int32) ≤ nI j := nlt' (n := 6) h (by omega)
theorem nle10 {j : Nat} (h : j < 10) : ¬ (10 : Int32) ≤ nI j := nlt' (n := 10) h (by omega)
/-- rows copied: what other rows hold stays -/
def CPY (m : List (Nat × Nat × Nat)) (a a2 : Nat → Nat → Int32) : Prop := (∀ t, (∀ q ∈ m, t ≠ q.1) → a2 t = a t) ∧ ∀ q ∈ m, ∀ i, i < q.2.2 → a2 q.1 i = a q.2.1 i
theorem copyK_eq (f : Nat → Int32) (g : Nat → Int64) (a : Nat → Nat → Int32) : ∃ a2, F_X3_copyK f g a = some (upd (upd (upd (upd f 10 (f 6)) 11 (f 7)) 12 (f 8)) 13 (f 9), g, a2) ∧ (∀ t, t ≠ 20 → t ≠ 21 → t ≠ 22 → t ≠ 23 → t ≠ 24 → t ≠ 25 → a2 t = a t) ∧ (∀ i, i < 5 → a2 20 i = a 14 i ∧ a2 21 i = a 15 i ∧ a2 22 i = a 16 i) ∧ ∀ i, i < 6 → a2 23 i = a 17 i ∧ a2 24 i = a 18 i ∧ a2 25 i = a 19 i := by
  unfold F_X3_copyK N_X3_copyK_7
  refine Exists.elim (lp_inv (b := fun q7 : (Int32 × ST) => B_X3_copyK_7 q7.2.1 q7.2.2.1 q7.2.2.2 q7.1) (fun j s => ∃ aj, s = (nI j, f, g, aj) ∧ (∀ t, t ≠ 20 → t ≠ 21 → t ≠ 22 → aj t = a t) ∧ (∀ i, i < j → aj 20 i = a 14 i) ∧ (∀ i, i < j → aj 21 i = a 15 i) ∧ (∀ i, i < j → aj 22 i = a 16 i)) (fun r => ∃ a2, r = (upd (upd (upd (upd f 10 (f 6)) 11 (f 7)) 12 (f 8)) 13 (f 9), g, a2) ∧ (∀ t, t ≠ 20 → t ≠ 21 → t ≠ 22 → t ≠ 23 → t ≠ 24 → t ≠ 25 → a2 t = a t) ∧ (∀ i, i < 5 → a2 20 i = a 14 i ∧ a2 21 i = a 15 i ∧ a2 22 i = a 16 i) ∧ ∀ i, i < 6 → a2 23 i = a 17 i ∧ a2 24 i = a 18 i ∧ a2 25 i = a 19 i) 5 ?_ ?_ (by omega) (0, f, g, a) ⟨a, rfl, fun t _ _ _ => rfl, fun i h => absurd h (by omega), fun i h => absurd h (by omega), fun i h => absurd h (by omega)⟩) ?_
  rotate_left 2
  · rintro r ⟨h1, a2, rfl, h2⟩
    exact ⟨a2, h1, h2⟩
  · rintro j hj s ⟨aj, rfl, h0, h1, h2, h3⟩
    have e14 := h0 14 (by decide) (by decide) (by decide)
    have e15 := h0 15 (by decide) (by decide) (by decide)
    have e16 := h0 16 (by decide) (by decide) (by decide)
    refine ⟨(nI (j + 1), f, g, us (us (us aj 20 (upd (aj 20) j (aj 14 j))) 21 (upd (aj 21) j (aj 15 j))) 22 (upd (aj 22) j (aj 16 j))), ?_, _, rfl, ?_, ?_, ?_, ?_⟩
    · unfold B_X3_copyK_7
      dsimp only
      rw [if_neg (nle5 hj), nI_1]
      simp only [put_in (n := 5) hj (by omega), at_in (n := 5) hj (by omega)]
      rfl
    · intro t q1 q2 q3
      rw [us_n _ _ q3, us_n _ _ q2, us_n _ _ q1, h0 t q1 q2 q3]
    · rw [e14]; exact cp_up h1
    · rw [e15]; exact cp_up h2
    · rw [e16]; exact cp_up h3
  · rintro s ⟨aj, rfl, h0, h1, h2, h3⟩
    refine Exists.elim (lp_inv (b := fun q68 : (Int32 × ST) => B_X3_copyK_68 q68.2.1 q68.2.2.1 q68.2.2.2 q68.1) (fun j s => ∃ ak, s = (nI j, f, g, ak) ∧ (∀ t, t ≠ 23 → t ≠ 24 → t ≠ 25 → ak t = aj t) ∧ (∀ i, i < j → ak 23 i = aj 17 i) ∧ (∀ i, i < j → ak 24 i = aj 18 i) ∧ (∀ i, i < j → ak 25 i = aj 19 i)) (fun r => ∃ a2, r = (upd (upd (upd (upd f 10 (f 6)) 11 (f 7)) 12 (f 8)) 13 (f 9), g, a2) ∧ (∀ t, t ≠ 23 → t ≠ 24 → t ≠ 25 → a2 t = aj t) ∧ (∀ i, i < 6 → a2 23 i = aj 17 i) ∧ (∀ i, i < 6 → a2 24 i = aj 18 i) ∧ (∀ i, i < 6 → a2 25 i = aj 19 i)) 6 ?_ ?_ (by omega) (0, f, g, aj) ⟨aj, rfl, fun t _ _ _ => rfl, fun i h => absurd h (by omega), fun i h => absurd h (by omega), fun i h => absurd h (by omega)⟩) ?_
    rotate_left 2
    · rintro r ⟨w1, a2, rfl, w2, w3, w4, w5⟩
      refine ⟨_, ?_, a2, rfl, ?_, ?_, ?_⟩
      · unfold B_X3_copyK_7 N_X3_copyK_68
        dsimp only
        rw [if_pos (show (5 : Int32) ≤ nI 5 from nI_le (a := 5) (Nat.le_refl 5) (by omega)), w1]
        rfl
      · intro t q1 q2 q3 q4 q5 q6
        rw [w2 t q4 q5 q6, h0 t q1 q2 q3]
      · intro i hi
        rw [w2 20 (by decide) (by decide) (by decide), w2 21 (by decide) (by decide) (by decide), w2 22 (by decide) (by decide) (by decide)]
        exact ⟨h1 i hi, h2 i hi, h3 i hi⟩
      · intro i hi
        rw [w3 i hi, w4 i hi, w5 i hi, h0 17 (by decide) (by decide) (by decide), h0 18 (by decide) (by decide) (by decide), h0 19 (by decide) (by decide) (by decide)]
        exact ⟨rfl, rfl, rfl⟩
    · rintro j hj s ⟨ak, rfl, k0, k1, k2, k3⟩
      have e14 := k0 17 (by decide) (by decide) (by decide)
      have e15 := k0 18 (by decide) (by decide) (by decide)
      have e16 := k0 19 (by decide) (by decide) (by decide)
      refine ⟨(nI (j + 1), f, g, us (us (us ak 23 (upd (ak 23) j (ak 17 j))) 24 (upd (ak 24) j (ak 18 j))) 25 (upd (ak 25) j (ak 19 j))), ?_, _, rfl, ?_, ?_, ?_, ?_⟩
      · unfold B_X3_copyK_68
        dsimp only
        rw [if_neg (nle6 hj), nI_1]
        simp only [put_in (n := 6) hj (by omega), at_in (n := 6) hj (by omega)]
        rfl
      · intro t q1 q2 q3
        rw [us_n _ _ q3, us_n _ _ q2, us_n _ _ q1, k0 t q1 q2 q3]
      · rw [e14]; exact cp_up k1
      · rw [e15]; exact cp_up k2
      · rw [e16]; exact cp_up k3
    · rintro s ⟨ak, rfl, k0, k1, k2, k3⟩
      refine ⟨_, ?_, ak, rfl, k0, k1, k2, k3⟩
      unfold B_X3_copyK_68
      dsimp only
      rw [if_pos (show (6 : Int32) ≤ nI 6 from nI_le (a := 6) (Nat.le_refl 6) (by omega))]
      rfl
theorem copyH_eq (f : Nat → Int32) (g : Nat → Int64) (a : Nat → Nat → Int32) : ∃ a2, F_X3_copyH f g a = some (upd (upd (upd (upd f 6 (f 10)) 7 (f 11)) 8 (f 12)) 9 (f 13), g, a2) ∧ (∀ t, t ≠ 14 → t ≠ 15 → t ≠ 16 → t ≠ 17 → t ≠ 18 → t ≠ 19 → a2 t = a t) ∧ (∀ i, i < 5 → a2 14 i = a 20 i ∧ a2 15 i = a 21 i ∧ a2 16 i = a 22 i) ∧ ∀ i, i < 6 → a2 17 i = a 23 i ∧ a2 18 i = a 24 i ∧ a2 19 i = a 25 i := by
  unfold F_X3_copyH N_X3_copyH_7
  refine Exists.elim (lp_inv (b := fun q7 : (Int32 × ST) => B_X3_copyH_7 q7.2.1 q7.2.2.1 q7.2.2.2 q7.1) (fun j s => ∃ aj, s = (nI j, f, g, aj) ∧ (∀ t, t ≠ 14 → t ≠ 15 → t ≠ 16 → aj t = a t) ∧ (∀ i, i < j → aj 14 i = a 20 i) ∧ (∀ i, i < j → aj 15 i = a 21 i) ∧ (∀ i, i < j → aj 16 i = a 22 i)) (fun r => ∃ a2, r = (upd (upd (upd (upd f 6 (f 10)) 7 (f 11)) 8 (f 12)) 9 (f 13), g, a2) ∧ (∀ t, t ≠ 14 → t ≠ 15 → t ≠ 16 → t ≠ 17 → t ≠ 18 → t ≠ 19 → a2 t = a t) ∧ (∀ i, i < 5 → a2 14 i = a 20 i ∧ a2 15 i = a 21 i ∧ a2 16 i = a 22 i) ∧ ∀ i, i < 6 → a2 17 i = a 23 i ∧ a2 18 i = a 24 i ∧ a2 19 i = a 25 i) 5 ?_ ?_ (by omega) (0, f, g, a) ⟨a, rfl, fun t _ _ _ => rfl, fun i h => absurd h (by omega), fun i h => absurd h (by omega), fun i h => absurd h (by omega)⟩) ?_
  rotate_left 2
  · rintro r ⟨h1, a2, rfl, h2⟩
    exact ⟨a2, h1, h2⟩
  · rintro j hj s ⟨aj, rfl, h0, h1, h2, h3⟩
    have e14 := h0 20 (by decide) (by decide) (by decide)
    have e15 := h0 21 (by decide) (by decide) (by decide)
    have e16 := h0 22 (by decide) (by decide) (by decide)
    refine ⟨(nI (j + 1), f, g, us (us (us aj 14 (upd (aj 14) j (aj 20 j))) 15 (upd (aj 15) j (aj 21 j))) 16 (upd (aj 16) j (aj 22 j))), ?_, _, rfl, ?_, ?_, ?_, ?_⟩
    · unfold B_X3_copyH_7
      dsimp only
      rw [if_neg (nle5 hj), nI_1]
      simp only [put_in (n := 5) hj (by omega), at_in (n := 5) hj (by omega)]
      rfl
    · intro t q1 q2 q3
      rw [us_n _ _ q3, us_n _ _ q2, us_n _ _ q1, h0 t q1 q2 q3]
    · rw [e14]; exact cp_up h1
    · rw [e15]; exact cp_up h2
    · rw [e16]; exact cp_up h3
  · rintro s ⟨aj, rfl, h0, h1, h2, h3⟩
    refine Exists.elim (lp_inv (b := fun q68 : (Int32 × ST) => B_X3_copyH_68 q68.2.1 q68.2.2.1 q68.2.2.2 q68.1) (fun j s => ∃ ak, s = (nI j, f, g, ak) ∧ (∀ t, t ≠ 17 → t ≠ 18 → t ≠ 19 → ak t = aj t) ∧ (∀ i, i < j → ak 17 i = aj 23 i) ∧ (∀ i, i < j → ak 18 i = aj 24 i) ∧ (∀ i, i < j → ak 19 i = aj 25 i)) (fun r => ∃ a2, r = (upd (upd (upd (upd f 6 (f 10)) 7 (f 11)) 8 (f 12)) 9 (f 13), g, a2) ∧ (∀ t, t ≠ 17 → t ≠ 18 → t ≠ 19 → a2 t = aj t) ∧ (∀ i, i < 6 → a2 17 i = aj 23 i) ∧ (∀ i, i < 6 → a2 18 i = aj 24 i) ∧ (∀ i, i < 6 → a2 19 i = aj 25 i)) 6 ?_ ?_ (by omega) (0, f, g, aj) ⟨aj, rfl, fun t _ _ _ => rfl, fun i h => absurd h (by omega), fun i h => absurd h (by omega), fun i h => absurd h (by omega)⟩) ?_
    rotate_left 2
    · rintro r ⟨w1, a2, rfl, w2, w3, w4, w5⟩
      refine ⟨_, ?_, a2, rfl, ?_, ?_, ?_⟩
      · unfold B_X3_copyH_7 N_X3_copyH_68
        dsimp only
        rw [if_pos (show (5 : Int32) ≤ nI 5 from nI_le (a := 5) (Nat.le_refl 5) (by omega)), w1]
        rfl
      · intro t q1 q2 q3 q4 q5 q6
        rw [w2 t q4 q5 q6, h0 t q1 q2 q3]
      · intro i hi
        rw [w2 14 (by decide) (by decide) (by decide), w2 15 (by decide) (by decide) (by decide), w2 16 (by decide) (by decide) (by decide)]
        exact ⟨h1 i hi, h2 i hi, h3 i hi⟩
      · intro i hi
        rw [w3 i hi, w4 i hi, w5 i hi, h0 23 (by decide) (by decide) (by decide), h0 24 (by decide) (by decide) (by decide), h0 25 (by decide) (by decide) (by decide)]
        exact ⟨rfl, rfl, rfl⟩
    · rintro j hj s ⟨ak, rfl, k0, k1, k2, k3⟩
      have e14 := k0 23 (by decide) (by decide) (by decide)
      have e15 := k0 24 (by decide) (by decide) (by decide)
      have e16 := k0 25 (by decide) (by decide) (by decide)
      refine ⟨(nI (j + 1), f, g, us (us (us ak 17 (upd (ak 17) j (ak 23 j))) 18 (upd (ak 18) j (ak 24 j))) 19 (upd (ak 19) j (ak 25 j))), ?_, _, rfl, ?_, ?_, ?_, ?_⟩
      · unfold B_X3_copyH_68
        dsimp only
        rw [if_neg (nle6 hj), nI_1]
        simp only [put_in (n := 6) hj (by omega), at_in (n := 6) hj (by omega)]
        rfl
      · intro t q1 q2 q3
        rw [us_n _ _ q3, us_n _ _ q2, us_n _ _ q1, k0 t q1 q2 q3]
      · rw [e14]; exact cp_up k1
      · rw [e15]; exact cp_up k2
      · rw [e16]; exact cp_up k3
    · rintro s ⟨ak, rfl, k0, k1, k2, k3⟩
      refine ⟨_, ?_, ak, rfl, k0, k1, k2, k3⟩
      unfold B_X3_copyH_68
      dsimp only
      rw [if_pos (show (6 : Int32) ≤ nI 6 from nI_le (a := 6) (Nat.le_refl 6) (by omega))]
      rfl
