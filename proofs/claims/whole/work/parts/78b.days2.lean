/-! ===== 78b: days, both sides ===== -/
def VB (W : Nat → Nat) (N S : Nat) : Nat → Nat → Nat → Nat → Prop
  | 0, b, _, _ => b &&& S = S
  | k + 1, b, bf, code => code / 32 ^ k < N ∧ bf ≤ code / 32 ^ k ∧ VB W N S k (b ||| W (code / 32 ^ k)) (code / 32 ^ k) (code % 32 ^ k)
theorem wbr_s (W : Nat → Nat) (N k b bf code : Nat) : wbr W N (k + 1) b bf code = if N ≤ code / 32 ^ k then 0 else if bf ≤ code / 32 ^ k then wbr W N k (b ||| W (code / 32 ^ k)) (code / 32 ^ k) (code % 32 ^ k) else 0 := rfl
theorem wbr_VB {W : Nat → Nat} {N S : Nat} (hS : S ≠ 0) : ∀ k b bf code, wbr W N k b bf code &&& S = S ↔ VB W N S k b bf code
  | 0, b, bf, code => Iff.rfl
  | k + 1, b, bf, code => by
    have hz : ¬ (0 &&& S = S) := fun z => by rw [Nat.zero_and] at z; exact hS z.symm
    rw [wbr_s]
    by_cases c1 : N ≤ code / 32 ^ k
    · rw [if_pos c1]
      exact ⟨fun z => absurd z hz, fun z => absurd z.1 (by omega)⟩
    · rw [if_neg c1]
      by_cases c2 : bf ≤ code / 32 ^ k
      · rw [if_pos c2, wbr_VB hS k]
        exact ⟨fun z => ⟨by omega, c2, z⟩, fun z => z.2.2⟩
      · rw [if_neg c2]
        exact ⟨fun z => absurd z hz, fun z => absurd z.2.1 c2⟩
theorem br1 {W : Nat → Nat} {N S : Nat} (h0 : W 0 = 0) (hS0 : S ≠ 0) (hS : S < 32) (hW : ∀ c, c < N → W c < 32) {code : Nat} : VB W N S 1 0 0 code ↔ Va W N 1 S 1 code := by
  constructor
  · rintro ⟨h1, h2, h3⟩
    have h3 : (0 ||| W (code / 32 ^ 0)) &&& S = S := h3
    rw [Nat.zero_or] at h3
    refine ⟨?_, h1, (rm_1 S hS _ (hW _ h1)).mpr h3⟩
    rcases Nat.eq_zero_or_pos (code / 32 ^ 0) with q | q
    · rw [q, h0, Nat.zero_and] at h3
      exact absurd h3.symm hS0
    · exact q
  · rintro ⟨h1, h2, h3⟩
    refine ⟨h2, Nat.zero_le _, ?_⟩
    show (0 ||| W (code / 32 ^ 0)) &&& S = S
    rw [Nat.zero_or]
    exact (rm_1 S hS _ (hW _ h2)).mp h3
theorem br2 {W : Nat → Nat} {N S : Nat} (h0 : W 0 = 0) (hS : S < 32) (hW : ∀ c, c < N → W c < 32) (n1 : ∀ c, c < N → ¬ (W c &&& S = S)) {code : Nat} : VB W N S 2 0 0 code ↔ Va W N 2 S 1 code := by
  have key : ∀ c d, c < N → d < N → (rm W (rm W S c) d = 0 ↔ (W c ||| W d) &&& S = S) := by
    intro c d hc hd
    unfold rm
    rw [rm_2 S hS _ (hW c hc) _ (hW d hd)]
    exact rm_1 S hS _ (or_lt _ (hW c hc) _ (hW d hd))
  constructor
  · rintro ⟨h1, h2, h3, h4, h5⟩
    have h5 : ((0 ||| W (code / 32 ^ 1)) ||| W (code % 32 ^ 1 / 32 ^ 0)) &&& S = S := h5
    rw [Nat.zero_or] at h5
    refine ⟨?_, h1, ?_, h3, (key _ _ h1 h3).mpr h5⟩
    · rcases Nat.eq_zero_or_pos (code / 32 ^ 1) with q | q
      · rw [q, h0, Nat.zero_or] at h5
        exact absurd h5 (n1 _ h3)
      · exact q
    · rcases Nat.eq_or_lt_of_le h4 with q | q
      · rw [← q, Nat.or_self] at h5
        exact absurd h5 (n1 _ h1)
      · exact q
  · rintro ⟨h1, h2, h3, h4, h5⟩
    refine ⟨h2, Nat.zero_le _, h4, by omega, ?_⟩
    show ((0 ||| W (code / 32 ^ 1)) ||| W (code % 32 ^ 1 / 32 ^ 0)) &&& S = S
    rw [Nat.zero_or]
    exact (key _ _ h2 h4).mp h5
theorem br3 {W : Nat → Nat} {N S : Nat} (h0 : W 0 = 0) (hS : S < 32) (hW : ∀ c, c < N → W c < 32) (n2 : ∀ c d, c < N → d < N → c ≤ d → ¬ ((W c ||| W d) &&& S = S)) {code : Nat} : VB W N S 3 0 0 code ↔ Va W N 3 S 1 code := by
  have key : ∀ c d e, c < N → d < N → e < N → (rm W (rm W (rm W S c) d) e = 0 ↔ ((W c ||| W d) ||| W e) &&& S = S) := by
    intro c d e hc hd he
    have l1 := or_lt _ (hW c hc) _ (hW d hd)
    unfold rm
    rw [rm_2 S hS _ (hW c hc) _ (hW d hd), rm_2 S hS _ l1 _ (hW e he)]
    exact rm_1 S hS _ (or_lt _ l1 _ (hW e he))
  constructor
  · rintro ⟨h1, h2, h3, h4, h5, h6, h7⟩
    have h7 : (((0 ||| W (code / 32 ^ 2)) ||| W (code % 32 ^ 2 / 32 ^ 1)) ||| W (code % 32 ^ 2 % 32 ^ 1 / 32 ^ 0)) &&& S = S := h7
    rw [Nat.zero_or] at h7
    refine ⟨?_, h1, ?_, h3, ?_, h5, (key _ _ _ h1 h3 h5).mpr h7⟩
    · rcases Nat.eq_zero_or_pos (code / 32 ^ 2) with q | q
      · rw [q, h0, Nat.zero_or] at h7
        exact absurd h7 (n2 _ _ h3 h5 h6)
      · exact q
    · rcases Nat.eq_or_lt_of_le h4 with q | q
      · rw [← q, Nat.or_self] at h7
        exact absurd h7 (n2 _ _ h1 h5 (Nat.le_trans h4 h6))
      · exact q
    · rcases Nat.eq_or_lt_of_le h6 with q | q
      · rw [← q, Nat.or_assoc, Nat.or_self] at h7
        exact absurd h7 (n2 _ _ h1 h3 h4)
      · exact q
  · rintro ⟨h1, h2, h3, h4, h5, h6, h7⟩
    refine ⟨h2, Nat.zero_le _, h4, by omega, h6, by omega, ?_⟩
    show (((0 ||| W (code / 32 ^ 2)) ||| W (code % 32 ^ 2 / 32 ^ 1)) ||| W (code % 32 ^ 2 % 32 ^ 1 / 32 ^ 0)) &&& S = S
    rw [Nat.zero_or]
    exact (key _ _ _ h2 h4 h6).mp h7
/-- where no fewer days do, what the reference seeks is what the class seeks -/
theorem brg {W : Nat → Nat} {N S : Nat} (hN : N ≤ 32) (h0 : W 0 = 0) (hS0 : S ≠ 0) (hS : S < 32) (hW : ∀ c, c < N → W c < 32) {m : Nat} (h1 : 1 ≤ m) (h3 : m ≤ 3) (hno : ∀ m', 1 ≤ m' → m' < m → ∀ code, code < 32 ^ m' → ¬ VB W N S m' 0 0 code) (code : Nat) : VB W N S m 0 0 code ↔ Va W N m S 1 code := by
  have e1 : 1 < m → ∀ c, c < N → ¬ (W c &&& S = S) := by
    intro hm c hc z
    refine hno 1 (by omega) hm c (by rw [Nat.pow_one]; omega) ⟨by rw [Nat.pow_zero, Nat.div_one]; exact hc, Nat.zero_le _, ?_⟩
    show (0 ||| W (c / 32 ^ 0)) &&& S = S
    rw [Nat.zero_or, Nat.pow_zero, Nat.div_one]
    exact z
  have e2 : 2 < m → ∀ c d, c < N → d < N → c ≤ d → ¬ ((W c ||| W d) &&& S = S) := by
    intro hm c d hc hd hcd z
    have q1 : (c * 32 + d) / 32 ^ 1 = c := by rw [Nat.pow_one]; omega
    have q2 : (c * 32 + d) % 32 ^ 1 / 32 ^ 0 = d := by rw [Nat.pow_one, Nat.pow_zero]; omega
    refine hno 2 (by omega) hm (c * 32 + d) (by rw [show 32 ^ 2 = 1024 from rfl]; omega) ⟨by rw [q1]; exact hc, Nat.zero_le _, ?_, ?_, ?_⟩
    · rw [q2]; exact hd
    · rw [q1, q2]; exact hcd
    · show ((0 ||| W ((c * 32 + d) / 32 ^ 1)) ||| W ((c * 32 + d) % 32 ^ 1 / 32 ^ 0)) &&& S = S
      rw [q1, q2, Nat.zero_or]
      exact z
  rcases (show m = 1 ∨ m = 2 ∨ m = 3 by omega) with rfl | rfl | rfl
  · exact br1 h0 hS0 hS hW
  · exact br2 h0 hS hW (e1 (by omega))
  · exact br3 h0 hS hW (e2 (by omega))
