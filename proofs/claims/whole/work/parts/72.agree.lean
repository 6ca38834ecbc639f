/-! ===== 72: what is heard agrees ===== -/
theorem lp_any0 {S R : Type} {b : S → Option (S ⊕ R)} (I : Nat → S → Prop) (P : R → Prop) : ∀ (k i : Nat), (∀ j, i ≤ j → j < i + k → ∀ s, I j s → (∃ s', b s = some (.inl s') ∧ I (j + 1) s') ∨ ∃ r, b s = some (.inr r) ∧ P r) → (∀ s, I (i + k) s → ∃ r, b s = some (.inr r) ∧ P r) → ∀ N, k < N → ∀ s, I i s → ∃ r, lpN b N s = some r ∧ P r := by
  intro k
  induction k with
  | zero =>
    intro i _ h2 N hN s hs
    obtain ⟨N, rfl⟩ : ∃ m, N = m + 1 := ⟨N - 1, by omega⟩
    obtain ⟨r, hr, hp⟩ := h2 s hs
    exact ⟨r, lpN_o hr, hp⟩
  | succ k ih =>
    intro i h1 h2 N hN s hs
    obtain ⟨N, rfl⟩ : ∃ m, N = m + 1 := ⟨N - 1, by omega⟩
    rcases h1 i (Nat.le_refl i) (by omega) s hs with ⟨s', h3, h4⟩ | ⟨r, hr, hp⟩
    · rw [lpN_i h3]
      exact ih (i + 1) (fun j a b s hs => h1 j (by omega) (by omega) s hs) (fun s hs => h2 s (by rw [show i + (k + 1) = i + 1 + k by omega]; exact hs)) N (by omega) s' h4
    · exact ⟨r, lpN_o hr, hp⟩
/-- a loop that may end early -/
theorem lp_any {S R : Type} {b : S → Option (S ⊕ R)} (I : Nat → S → Prop) (P : R → Prop) (k : Nat) (h1 : ∀ j, j < k → ∀ s, I j s → (∃ s', b s = some (.inl s') ∧ I (j + 1) s') ∨ ∃ r, b s = some (.inr r) ∧ P r) (h2 : ∀ s, I k s → ∃ r, b s = some (.inr r) ∧ P r) (hk : k < 100000) (s : S) (hs : I 0 s) : ∃ r, lpN b kFu s = some r ∧ P r :=
  lp_any0 I P k 0 (fun j _ hj s hs => h1 j (by omega) s hs) (fun s hs => h2 s (by rw [Nat.zero_add] at hs; exact hs)) kFu hk s hs
def GX (n hd : Nat) (V : Nat → Nat → Nat) (f : Nat → Int32) (a : Nat → Nat → Int32) : Prop := LXv n V f a ∧ hd ≤ 6 ∧ f 7 = nI hd ∧ ∀ i, i < hd → a 17 i = nI (V 4 i) ∧ a 18 i = nI (V 5 i) ∧ a 19 i = nI (V 6 i) ∧ V 4 i < n ∧ V 5 i < 2 ^ n ∧ (V 5 i).testBit (V 4 i) = true ∧ V 6 i < 2
def GM (n hd : Nat) (V : Nat → Nat → Nat) (f : Nat → Int32) (a : Nat → Nat → Int32) : Prop := LMv n V f a ∧ hd ≤ 6 ∧ f 8 = nI hd ∧ ∀ i, i < hd → a 9 i = nI (V 4 i) ∧ a 10 i = nI (V 5 i) ∧ a 11 i = nI (V 6 i) ∧ V 4 i < n ∧ V 5 i < 2 ^ n ∧ (V 5 i).testBit (V 4 i) = true ∧ V 6 i < 2
def ag1 (V : Nat → Nat → Nat) (p h1 h2 i : Nat) : Bool := decide (V 4 i ≠ p) || (wr (V 7 p) p h1 h2 (V 5 i) (V 2 p) == decide (V 6 i = 1))
def agf (V : Nat → Nat → Nat) (p h1 h2 : Nat) : Nat → Bool
  | 0 => true
  | i + 1 => agf V p h1 h2 i && ag1 V p h1 h2 i
theorem agf_f {V : Nat → Nat → Nat} {p h1 h2 : Nat} : ∀ {m j : Nat}, j < m → ag1 V p h1 h2 j = false → agf V p h1 h2 m = false
  | 0, j, h, _ => absurd h (by omega)
  | m + 1, j, h, e => by
    unfold agf
    by_cases q : j = m
    · subst q; rw [e, Bool.and_false]
    · rw [agf_f (by omega : j < m) e, Bool.false_and]
theorem agX_eq {n hd p h1 h2 : Nat} {V : Nat → Nat → Nat} {f : Nat → Int32} {g : Nat → Int64} {a : Nat → Nat → Int32} (h : GX n hd V f a) (hp : p < n) (h16 : f 16 = nI p) (hh1 : h1 < 5) (hh2 : h2 < 5) : F_X1_agrees f g a (nI h1) (nI h2) = some (bi (agf V p h1 h2 hd)) := by
  obtain ⟨lx, h6, h7, hv⟩ := h
  have hn := lx.1.1
  have h32 := (pow5 hn).1
  unfold F_X1_agrees N_X1_agrees_9
  refine Exists.elim (lp_any (b := fun q9 : (Int32) => B_X1_agrees_9 f g a (nI h1) (nI h2) q9) (fun j s => s = nI j ∧ agf V p h1 h2 j = true) (fun r => r = bi (agf V p h1 h2 hd)) hd ?_ ?_ (by omega) 0 ⟨rfl, rfl⟩) ?_
  rotate_left 2
  · rintro r ⟨w1, rfl⟩
    exact w1
  · rintro j hj s ⟨rfl, hag⟩
    obtain ⟨v1, v2, v3, v4, v5, v6, v7⟩ := hv j hj
    have key : B_X1_agrees_9 f g a (nI h1) (nI h2) (nI j) = if ag1 V p h1 h2 j = true then some (.inl (nI (j + 1))) else some (.inr 0) := by
      unfold B_X1_agrees_9 N_X1_agrees_79 N_X1_agrees_84
      rw [if_neg (by rw [h7]; exact nlt' hj (by omega)), at_in (show j < 6 by omega) (by omega), at_in (show j < 6 by omega) (by omega), at_in (show j < 6 by omega) (by omega), v1, v2, v3, h16, cw_eq lx.1 hp (show V 5 j < 32 by omega) hh1 hh2, nI_1]
      unfold ag1
      by_cases q : V 4 j = p
      · rw [if_pos (by rw [q])]
        rw [q] at v6
        rw [v6, Bool.true_and, decide_eq_false (fun z => z q), Bool.false_or]
        rcases (show V 6 j = 0 ∨ V 6 j = 1 by omega) with e | e <;> rw [e] <;> cases wr (V 7 p) p h1 h2 (V 5 j) (V 2 p) <;> rfl
      · rw [if_neg (fun z => q ((nI_eq (by omega) (by omega)).mp z)), decide_eq_true q, Bool.true_or, if_pos rfl]
    cases e : ag1 V p h1 h2 j with
    | true =>
      left
      exact ⟨_, by rw [key, if_pos e], rfl, by unfold agf; rw [hag, e]; rfl⟩
    | false =>
      right
      exact ⟨_, by rw [key, if_neg (by rw [e]; decide)], by rw [agf_f hj e]; rfl⟩
  · rintro s ⟨rfl, hag⟩
    refine ⟨_, ?_, rfl⟩
    unfold B_X1_agrees_9
    rw [if_pos (by rw [h7]; exact nI_le (Nat.le_refl hd) (by omega)), hag]
    rfl
theorem agM_eq {n hd p h1 h2 : Nat} {V : Nat → Nat → Nat} {f : Nat → Int32} {g : Nat → Int64} {a : Nat → Nat → Int32} (h : GM n hd V f a) (hp : p < n) (hh1 : h1 < 5) (hh2 : h2 < 5) : F_X12_couldHold f g a (nI p) (nI h1) (nI h2) = some (bi (agf V p h1 h2 hd)) := by
  obtain ⟨lm, h6, h8, hv⟩ := h
  have hn := lm.1.1
  have h32 := (pow5 hn).1
  unfold F_X12_couldHold N_X12_couldHold_6
  refine lp_all (fun j => (bi (agf V p h1 h2 j), nI j)) hd _ _ rfl ?_ ?_ (by omega)
  · intro j hj
    obtain ⟨v1, v2, v3, v4, v5, v6, v7⟩ := hv j hj
    unfold B_X12_couldHold_6 N_X12_couldHold_61 N_X12_couldHold_64 N_X12_couldHold_68 N_X12_couldHold_69
    dsimp only
    rw [if_neg (by rw [h8]; exact nlt' hj (by omega))]
    simp only [gd_t (inB_nI (k := j) (n := 6) (by omega) (by omega)), nI_clamp (show j < 2 ^ 31 by omega), v1, v2, v3, nI_1, iw_eq lm.1 hp (show V 5 j < 32 by omega) hh1 hh2, Option.bind_some]
    rw [show agf V p h1 h2 (j + 1) = (agf V p h1 h2 j && ag1 V p h1 h2 j) from rfl]
    cases agf V p h1 h2 j with
    | false => rfl
    | true =>
      rw [Bool.true_and]
      unfold ag1
      by_cases q : V 4 j = p
      · rw [if_pos (show nI (V 4 j) = nI p by rw [q]), decide_eq_false (fun z => z q), Bool.false_or]
        rcases (show V 6 j = 0 ∨ V 6 j = 1 by omega) with e | e <;> rw [e] <;> cases wr (V 7 p) p h1 h2 (V 5 j) (V 2 p) <;> rfl
      · rw [if_neg (show ¬ nI (V 4 j) = nI p from fun z => q ((nI_eq (by omega) (by omega)).mp z)), decide_eq_true q, Bool.true_or]
        rfl
  · unfold B_X12_couldHold_6
    dsimp only
    rw [if_pos (by rw [h8]; exact nI_le (Nat.le_refl hd) (by omega))]
    rfl
theorem Rel_gx {n hd : Nat} {V : Nat → Nat → Nat} {f f' : Nat → Int32} {a a' : Nat → Nat → Int32} (hT : RT n (f 5) (f' 1) (a 31) (a' 2) V) (hX : PX n hd V (a 14) (a 15) (a 16) (f 6) (f 7) (a 17) (a 18) (a 19)) (hB : PB n hd V) : GX n hd V f a := by
  refine ⟨Rel_lx (f' := f') (a' := a') hT hX hB, hB.1, hX.2.2.1, fun i hi => ?_⟩
  obtain ⟨x1, x2, x3⟩ := hX.2.2.2 i hi
  obtain ⟨b1, b2, b3, b4⟩ := hB.2.2 i hi
  exact ⟨x1, x2, x3, b1, b2, b3, b4⟩
theorem Rel_gm {n hd : Nat} {V : Nat → Nat → Nat} {f f' : Nat → Int32} {a a' : Nat → Nat → Int32} (hT : RT n (f 5) (f' 1) (a 31) (a' 2) V) (hM : PM n hd V (a' 3) (a' 4) (a' 5) (f' 8) (a' 9) (a' 10) (a' 11)) (hB : PB n hd V) : GM n hd V f' a' := by
  refine ⟨Rel_lm (f := f) (a := a) hT hM hB, hB.1, hM.2.1, fun i hi => ?_⟩
  obtain ⟨x1, x2, x3⟩ := hM.2.2 i hi
  obtain ⟨b1, b2, b3, b4⟩ := hB.2.2 i hi
  exact ⟨x1, x2, x3, b1, b2, b3, b4⟩
