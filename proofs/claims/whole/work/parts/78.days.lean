/-! ===== 78: days ===== -/
def rm (W : Nat → Nat) (s c : Nat) : Nat := s &&& (W c ^^^ 4294967295)
def sr (Q : Nat → Option Nat) (M : Nat) : Nat → Nat → Option Nat
  | 0, _ => none
  | d + 1, c => match Q c with
    | some r => some (c * M + r)
    | none => sr Q M d (c + 1)
def KK (W : Nat → Nat) (N : Nat) : Nat → Nat → Nat → Option Nat
  | 0, left, _ => if left = 0 then some 0 else none
  | m + 1, left, fr => sr (fun c => KK W N m (rm W left c) (c + 1)) (32 ^ m) (N - fr) fr
def Va (W : Nat → Nat) (N : Nat) : Nat → Nat → Nat → Nat → Prop
  | 0, left, _, _ => left = 0
  | m + 1, left, fr, code => fr ≤ code / 32 ^ m ∧ code / 32 ^ m < N ∧ Va W N m (rm W left (code / 32 ^ m)) (code / 32 ^ m + 1) (code % 32 ^ m)
theorem sr_e (Q : Nat → Option Nat) (M d c : Nat) : sr Q M (d + 1) c = match Q c with
    | some r => some (c * M + r)
    | none => sr Q M d (c + 1) := rfl
theorem sr_s {Q : Nat → Option Nat} {M : Nat} : ∀ d c r, sr Q M d c = some r → ∃ c' v, c ≤ c' ∧ c' < c + d ∧ Q c' = some v ∧ r = c' * M + v ∧ ∀ e, c ≤ e → e < c' → Q e = none
  | 0, c, r, h => by cases h
  | d + 1, c, r, h => by
    rw [sr_e] at h
    cases q : Q c with
    | some v =>
      rw [q] at h
      exact ⟨c, v, by omega, by omega, q, (Option.some.inj h).symm, fun e h1 h2 => absurd h1 (by omega)⟩
    | none =>
      rw [q] at h
      obtain ⟨c', v, h1, h2, h3, h4, h5⟩ := sr_s d (c + 1) r h
      refine ⟨c', v, by omega, by omega, h3, h4, fun e e1 e2 => ?_⟩
      by_cases z : e = c
      · rw [z, q]
      · exact h5 e (by omega) e2
theorem sr_n {Q : Nat → Option Nat} {M : Nat} : ∀ d c, sr Q M d c = none → ∀ e, c ≤ e → e < c + d → Q e = none
  | 0, c, h, e, h1, h2 => absurd h1 (by omega)
  | d + 1, c, h, e, h1, h2 => by
    rw [sr_e] at h
    cases q : Q c with
    | some v => rw [q] at h; cases h
    | none =>
      rw [q] at h
      by_cases z : e = c
      · rw [z, q]
      · exact sr_n d (c + 1) h e (by omega) (by omega)
theorem KK_none {W : Nat → Nat} {N : Nat} : ∀ m left fr, KK W N m left fr = none → ∀ code, code < 32 ^ m → ¬ Va W N m left fr code
  | 0, left, fr, h, code, _, hv => by
    have hv : left = 0 := hv
    unfold KK at h
    rw [if_pos hv] at h
    cases h
  | m + 1, left, fr, h, code, _, hv => by
    obtain ⟨v1, v2, v3⟩ := hv
    have hq := sr_n (Q := fun c => KK W N m (rm W left c) (c + 1)) (N - fr) fr h (code / 32 ^ m) v1 (by omega)
    exact KK_none m _ _ hq (code % 32 ^ m) (Nat.mod_lt _ (Nat.pow_pos (by decide))) v3
theorem KK_some {W : Nat → Nat} {N : Nat} (hN : N ≤ 32) : ∀ m left fr code, KK W N m left fr = some code → code < 32 ^ m ∧ Va W N m left fr code ∧ ∀ code', code' < code → ¬ Va W N m left fr code'
  | 0, left, fr, code, h => by
    unfold KK at h
    by_cases z : left = 0
    · rw [if_pos z] at h
      cases h
      exact ⟨by decide, z, fun c hc => absurd hc (by omega)⟩
    · rw [if_neg z] at h; cases h
  | m + 1, left, fr, code, h => by
    obtain ⟨c, v, h1, h2, h3, h4, h5⟩ := sr_s (Q := fun c => KK W N m (rm W left c) (c + 1)) (N - fr) fr code h
    obtain ⟨i1, i2, i3⟩ := KK_some hN m _ _ v h3
    have hM : 0 < 32 ^ m := Nat.pow_pos (by decide)
    have ed : code / 32 ^ m = c := by rw [h4, Nat.mul_comm, Nat.mul_add_div hM, Nat.div_eq_of_lt i1, Nat.add_zero]
    have em : code % 32 ^ m = v := by rw [h4, Nat.mul_comm, Nat.mul_add_mod, Nat.mod_eq_of_lt i1]
    refine ⟨?_, ⟨by rw [ed]; exact h1, by rw [ed]; omega, by rw [ed, em]; exact i2⟩, ?_⟩
    · rw [Nat.pow_succ, h4]
      have l1 : (c + 1) * 32 ^ m ≤ 32 * 32 ^ m := Nat.mul_le_mul_right _ (by omega)
      rw [Nat.add_mul, Nat.one_mul] at l1
      rw [Nat.mul_comm (32 ^ m) 32]
      omega
    · rintro code' hc ⟨v1, v2, v3⟩
      have hdm := Nat.div_add_mod code' (32 ^ m)
      have hlt := Nat.mod_lt code' hM
      rcases Nat.lt_trichotomy (code' / 32 ^ m) c with q | q | q
      · exact KK_none m _ _ (h5 _ v1 q) _ hlt v3
      · rw [q] at v3 hdm
        rw [Nat.mul_comm] at hdm
        exact i3 _ (by omega) v3
      · have l1 : 32 ^ m * (c + 1) ≤ 32 ^ m * (code' / 32 ^ m) := Nat.mul_le_mul_left _ q
        rw [Nat.mul_add, Nat.mul_one, Nat.mul_comm (32 ^ m) c] at l1
        omega
def wbr (W : Nat → Nat) (N : Nat) : Nat → Nat → Nat → Nat → Nat
  | 0, b, _, _ => b
  | k + 1, b, bf, code => if N ≤ code / 32 ^ k then 0 else if bf ≤ code / 32 ^ k then wbr W N k (b ||| W (code / 32 ^ k)) (code / 32 ^ k) (code % 32 ^ k) else 0
theorem rm_1 : ∀ s, s < 32 → ∀ w, w < 32 → (s &&& (w ^^^ 4294967295) = 0 ↔ w &&& s = s) := by decide +kernel
theorem rm_lt : ∀ s, s < 32 → ∀ w, w < 32 → s &&& (w ^^^ 4294967295) < 32 := by decide +kernel
theorem rm_2 : ∀ s, s < 32 → ∀ w, w < 32 → ∀ v, v < 32 → (s &&& (w ^^^ 4294967295)) &&& (v ^^^ 4294967295) = s &&& ((w ||| v) ^^^ 4294967295) := by decide +kernel
theorem or_lt : ∀ s, s < 32 → ∀ w, w < 32 → s ||| w < 32 := by decide +kernel
