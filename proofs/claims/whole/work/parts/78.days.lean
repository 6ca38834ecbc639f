/-! ===== 78: days ===== -/
def rm (W : Nat → Nat) (s c : Nat) : Nat := s &&& (W c ^^^ 4294967295)
def sr (Q : Nat → Option Nat) (M : Nat) : Nat → Nat → Option Nat
  | 0, _ => none
  | d + 1, c => match Q c with
    | some r => some (c * M + r)
    | none => sr Q M d (c + 1)
def KK (W : Nat → Nat) (N : Nat) : Nat → Nat → Nat → Option Nat
  | 0, left, _ => if left = 0 then some 0 else none
  | m + 1, left, fr => sr (fun c => KK W N m (rm W left c) (c + 1)) (32 ^ m) (N - fr) fr
def Va (W : Nat → Nat) (N : Nat) : Nat → Nat → Nat → Nat → Prop
  | 0, left, _, _ => left = 0
  | m + 1, left, fr, code => fr ≤ code / 32 ^ m ∧ code / 32 ^ m < N ∧ Va W N m (rm W left (code / 32 ^ m)) (code / 32 ^ m + 1) (code % 32 ^ m)
theorem sr_e (Q : Nat → Option Nat) (M d c : Nat) : sr Q M (d + 1) c = match Q c with
    | some r => some (c * M + r)
    | none => sr Q M d (c + 1) := rfl
theorem sr_s {Q : Nat → Option Nat} {M : Nat} : ∀ d c r, sr Q M d c = some r → ∃ c' v, c ≤ c' ∧ c' < c + d ∧ Q c' = some v ∧ r = c' * M + v ∧ ∀ e, c ≤ e → e < c' → Q e = none
  | 0, c, r, h => by cases h
  | d + 1, c, r, h => by
    rw [sr_e] at h
    cases q : Q c with
    | some v =>
      rw [q] at h
      exact ⟨c, v, by omega, by omega, q, (Option.some.inj h).symm, fun e h1 h2 => absurd h1 (by omega)⟩
    | none =>
      rw [q] at h
      obtain ⟨c', v, h1, h2, h3, h4, h5⟩ := sr_s d (c + 1) r h
      refine ⟨c', v, by omega, by omega, h3, h4, fun e e1 e2 => ?_⟩
      by_cases z : e = c
      · rw [z, q]
      · exact h5 e (by omega) e2
theorem sr_n {Q : Nat → Option Nat} {M : Nat} : ∀ d c, sr Q M d c = none → ∀ e, c ≤ e → e < c + d → Q e = none
  | 0, c, h, e, h1, h2 => absurd h1 (by omega)
  | d + 1, c, h, e, h1, h2 => by
    rw [sr_e] at h
    cases q : Q c with
    | some v => rw [q] at h; cases h
    | none =>
      rw [q] at h
      by_cases z : e = c
      · rw [z, q]
      · exact sr_n d (c + 1) h e (by omega) (by omega)
theorem KK_none {W : Nat → Nat} {N : Nat} : ∀ m left fr, KK W N m left fr = none → ∀ code, code < 32 ^ m → ¬ Va W N m left fr code
  | 0, left, fr, h, code, _, hv => by
    have hv : left = 0 := hv
    unfold KK at h
    rw [if_pos hv] at h
    cases h
  | m + 1, left, fr, h, code, _, hv => by
    obtain ⟨v1, v2, v3⟩ := hv
    have hq := sr_n (Q := fun c => KK W N m (rm W left c) (c + 1)) (N - fr) fr h (code / 32 ^ m) v1 (by omega)
    exact KK_none m _ _ hq (code % 32 ^ m) (Nat.mod_lt _ (Nat.pow_pos (by decide))) v3
theorem KK_some {W : Nat → Nat} {N : Nat} (hN : N ≤ 32) : ∀ m left fr code, KK W N m left fr = some code → code < 32 ^ m ∧ Va W N m left fr code ∧ ∀ code', code' < code → ¬ Va W N m left fr code'
  | 0, left, fr, code, h => by
    unfold KK at h
    by_cases z : left = 0
    · rw [if_pos z] at h
      cases h
      exact ⟨by decide, z, fun c hc => absurd hc (by omega)⟩
    · rw [if_neg z] at h; cases h
  | m + 1, left, fr, code, h => by
    obtain ⟨c, v, h1, h2, h3, h4, h5⟩ := sr_s (Q := fun c => KK W N m (rm W left c) (c + 1)) (N - fr) fr code h
    obtain ⟨i1, i2, i3⟩ := KK_some hN m _ _ v h3
    have hM : 0 < 32 ^ m := Nat.pow_pos (by decide)
    have ed : code / 32 ^ m = c := by rw [h4, Nat.mul_comm, Nat.mul_add_div hM, Nat.div_eq_of_lt i1, Nat.add_zero]
    have em : code % 32 ^ m = v := by rw [h4, Nat.mul_comm, Nat.mul_add_mod, Nat.mod_eq_of_lt i1]
    refine ⟨?_, ⟨by rw [ed]; exact h1, by rw [ed]; omega, by rw [ed, em]; exact i2⟩, ?_⟩
    · rw [Nat.pow_succ, h4]
      have l1 : (c + 1) * 32 ^ m ≤ 32 * 32 ^ m := Nat.mul_le_mul_right _ (by omega)
      rw [Nat.add_mul, Nat.one_mul] at l1
      rw [Nat.mul_comm (32 ^ m) 32]
      omega
    · rintro code' hc ⟨v1, v2, v3⟩
      have hdm := Nat.div_add_mod code' (32 ^ m)
      have hlt := Nat.mod_lt code' hM
      rcases Nat.lt_trichotomy (code' / 32 ^ m) c with q | q | q
      · exact KK_none m _ _ (h5 _ v1 q) _ hlt v3
      · rw [q] at v3 hdm
        rw [Nat.mul_comm] at hdm
        exact i3 _ (by omega) v3
      · have l1 : 32 ^ m * (c + 1) ≤ 32 ^ m * (code' / 32 ^ m) := Nat.mul_le_mul_left _ q
        rw [Nat.mul_add, Nat.mul_one, Nat.mul_comm (32 ^ m) c] at l1
        omega
def wbr (W : Nat → Nat) (N : Nat) : Nat → Nat → Nat → Nat → Nat
  | 0, b, _, _ => b
  | k + 1, b, bf, code => if N ≤ code / 32 ^ k then 0 else if bf ≤ code / 32 ^ k then wbr W N k (b ||| W (code / 32 ^ k)) (code / 32 ^ k) (code % 32 ^ k) else 0
theorem rm_1 : ∀ s, s < 32 → ∀ w, w < 32 → (s &&& (w ^^^ 4294967295) = 0 ↔ w &&& s = s) := by decide +kernel
theorem rm_lt : ∀ s, s < 32 → ∀ w, w < 32 → s &&& (w ^^^ 4294967295) < 32 := by decide +kernel
theorem rm_2 : ∀ s, s < 32 → ∀ w, w < 32 → ∀ v, v < 32 → (s &&& (w ^^^ 4294967295)) &&& (v ^^^ 4294967295) = s &&& ((w ||| v) ^^^ 4294967295) := by decide +kernel
theorem or_lt : ∀ s, s < 32 → ∀ w, w < 32 → s ||| w < 32 := by decide +kernel
def wS (V : Nat → Nat → Nat) (n c : Nat) : Nat := cset (fun p => c.testBit p && wv V p c) n
theorem who_eq {V : Nat → Nat → Nat} {n c : Nat} {f : Nat → Int32} {g : Nat → Int64} {a : Nat → Nat → Int32} (h : LXv n V f a) (hc : c < 32) : F_X7_whoIsWritten f g a (nI c) = some (nI (wS V n c)) := by
  have hn := h.1.1
  have h5 := h.1.2.1
  unfold F_X7_whoIsWritten N_X7_whoIsWritten_5
  refine lp_all (fun j => (nI (cset (fun p => c.testBit p && wv V p c) j), nI j)) n _ _ rfl ?_ ?_ (by omega)
  · intro j hj
    unfold B_X7_whoIsWritten_5 N_X7_whoIsWritten_31
    dsimp only
    rw [if_neg (by rw [h5]; exact nlt' hj (by omega)), can_eq h hj hc, m_shl1 (by omega), m_or, nI_1]
    cases q : (c.testBit j && wv V j c) with
    | true =>
      rw [if_neg (by decide)]
      simp only [cset, q, if_true]
    | false =>
      rw [if_pos (by decide)]
      simp [cset, q]
  · unfold B_X7_whoIsWritten_5
    dsimp only
    rw [if_pos (by rw [h5]; exact nI_le (Nat.le_refl _) (by omega))]
    rfl
def CVP (W : Nat → Nat) (N k d left fr : Nat) (f : Nat → Int32) (g : Nat → Int64) (a : Nat → Nat → Int32) (r : Option (Int32 × ST)) : Prop := (KK W N k left fr = none ∧ r = some (0, f, g, a)) ∨ ∃ code a2, KK W N k left fr = some code ∧ r = some (1, f, g, a2) ∧ (∀ t, t ≠ 27 → a2 t = a t) ∧ ∀ i, i < k → a2 27 (d + i) = nI (code / 32 ^ (k - 1 - i) % 32)
theorem cv_0 {W : Nat → Nat} {N d left fr : Nat} {f : Nat → Int32} {g : Nat → Int64} {a : Nat → Nat → Int32} (hl : left < 32) : CVP W N 0 d left fr f g a (if nI left = 0 then some (1, f, g, a) else some (0, f, g, a)) := by
  by_cases z : left = 0
  · right
    exact ⟨0, a, by unfold KK; rw [if_pos z], by rw [if_pos ((nz (by omega)).mpr z)], fun t _ => rfl, fun i hi => absurd hi (by omega)⟩
  · left
    exact ⟨by unfold KK; rw [if_neg z], by rw [if_neg (fun e => z ((nz (by omega)).mp e))]⟩
theorem dgt {c code k i : Nat} (hc : c < 32) (hk : k ≤ 2) (hcode : code < 32 ^ k) (hi : i < k) : code / 32 ^ (k - 1 - i) % 32 = (c * 32 ^ k + code) / 32 ^ (k + 1 - 1 - (i + 1)) % 32 := by
  rcases (show (k = 1 ∧ i = 0) ∨ (k = 2 ∧ i = 0) ∨ (k = 2 ∧ i = 1) by omega) with ⟨rfl, rfl⟩ | ⟨rfl, rfl⟩ | ⟨rfl, rfl⟩ <;> simp at hcode ⊢ <;> omega
theorem dgt0 {c code k : Nat} (hc : c < 32) (hk : k ≤ 2) (hcode : code < 32 ^ k) : c = (c * 32 ^ k + code) / 32 ^ (k + 1 - 1 - 0) % 32 := by
  rcases (show k = 0 ∨ k = 1 ∨ k = 2 by omega) with rfl | rfl | rfl <;> simp at hcode ⊢ <;> omega
theorem cvr_3 {W : Nat → Nat} {N : Nat} (hN : N ≤ 32) (hW : ∀ c, c < N → W c < 32) {f : Nat → Int32} {g : Nat → Int64} (h14 : f 14 = nI N) : ∀ k, 3 + k ≤ 3 → ∀ (left fr : Nat) (a : Nat → Nat → Int32), left < 32 → fr ≤ N → (∀ c, c < N → a 26 c = nI (W c)) → CVP W N k 3 left fr f g a (F_X7_cover_3 f g a (nI left) (nI fr) (nI (3 + k))) := by
  intro k hk left fr a hl hfr ha
  have : k = 0 := by omega
  subst this
  unfold F_X7_cover_3 N_X7_cover_3_11
  rw [if_pos (show nI (3 + 0) ≤ (3 : Int32) by decide)]
  exact cv_0 hl
theorem cvr_2 {W : Nat → Nat} {N : Nat} (hN : N ≤ 32) (hW : ∀ c, c < N → W c < 32) {f : Nat → Int32} {g : Nat → Int64} (h14 : f 14 = nI N) : ∀ k, 2 + k ≤ 3 → ∀ (left fr : Nat) (a : Nat → Nat → Int32), left < 32 → fr ≤ N → (∀ c, c < N → a 26 c = nI (W c)) → CVP W N k 2 left fr f g a (F_X7_cover_2 f g a (nI left) (nI fr) (nI (2 + k))) := by
  intro k hk left fr a hl hfr ha
  unfold F_X7_cover_2 N_X7_cover_2_11
  cases k with
  | zero =>
    rw [if_pos (show nI (2 + 0) ≤ (2 : Int32) by decide)]
    exact cv_0 hl
  | succ k =>
    rw [if_neg (show ¬ nI (2 + (k + 1)) ≤ (2 : Int32) from nlt' (j := 2) (by omega) (by omega))]
    unfold N_X7_cover_2_24
    refine Exists.elim (lp_any (b := fun q24 : (Int32 × ST) => B_X7_cover_2_24 q24.2.1 q24.2.2.1 q24.2.2.2 (nI left) (nI (2 + (k + 1))) q24.1) (fun j s => s = (nI (fr + j), f, g, a) ∧ KK W N (k + 1) left fr = sr (fun c => KK W N k (rm W left c) (c + 1)) (32 ^ k) (N - fr - j) (fr + j)) (fun r => CVP W N (k + 1) 2 left fr f g a (some r)) (N - fr) ?_ ?_ (by omega) (nI fr, f, g, a) ⟨rfl, rfl⟩) ?_
    rotate_left 2
    · rintro r ⟨w1, w2⟩
      rw [w1]
      exact w2
    · rintro j hj s ⟨rfl, hs⟩
      have hc : fr + j < N := by omega
      have hw := hW _ hc
      have hrl : rm W left (fr + j) < 32 := rm_lt left hl _ hw
      have hb : B_X7_cover_2_24 f g a (nI left) (nI (2 + (k + 1))) (nI (fr + j)) = (F_X7_cover_3 f g a (nI (rm W left (fr + j))) (nI (fr + j + 1)) (nI (2 + (k + 1)))).bind fun r5 => if r5.1 = 0 then some (.inl (nI (fr + j + 1), r5.2.1, r5.2.2.1, r5.2.2.2)) else Option.map Sum.inr (some (1, r5.2.1, r5.2.2.1, us r5.2.2.2 27 (F_put 3 (r5.2.2.2 27) 2 (nI (fr + j))))) := by
        unfold B_X7_cover_2_24
        rw [if_neg (by rw [h14]; exact nlt' hc (by omega)), at_in (show fr + j < 32 by omega) (by omega), ha _ hc, m_m1, m_xor, m_and, nI_1]
        rfl
      have ih := cvr_3 hN hW (g := g) h14 k (by omega) (rm W left (fr + j)) (fr + j + 1) a hrl (by omega) ha
      rw [show 3 + k = 2 + (k + 1) by omega] at ih
      rw [show N - fr - j = (N - fr - (j + 1)) + 1 by omega, sr_e] at hs
      dsimp only
      rw [hb]
      rcases ih with ⟨i1, i2⟩ | ⟨code, a2, i1, i2, i3, i4⟩
      · left
        rw [i1] at hs
        refine ⟨(nI (fr + j + 1), f, g, a), ?_, rfl, hs⟩
        rw [i2]
        rfl
      · right
        rw [i1] at hs
        have hcode := (KK_some hN k _ _ code i1).1
        refine ⟨(1, f, g, us a2 27 (upd (a2 27) 2 (nI (fr + j)))), ?_, Or.inr ⟨(fr + j) * 32 ^ k + code, _, hs, rfl, fun t ht => by rw [us_n _ _ ht, i3 t ht], fun i hi => ?_⟩⟩
        · rw [i2, ← put_in (n := 3) (show 2 < 3 by decide) (by decide)]
          rfl
        · show upd (a2 27) 2 (nI (fr + j)) (2 + i) = _
          cases i with
          | zero =>
            rw [show 2 + 0 = 2 from rfl, upd_s]
            exact congrArg nI (dgt0 (by omega) (by omega) hcode)
          | succ i =>
            rw [upd_n _ _ (show 2 + (i + 1) ≠ 2 by omega), show 2 + (i + 1) = 3 + i by omega, i4 i (by omega)]
            exact congrArg nI (dgt (by omega) (by omega) hcode (by omega))
    · rintro s ⟨rfl, hs⟩
      rw [show N - fr - (N - fr) = 0 by omega] at hs
      refine ⟨(0, f, g, a), ?_, Or.inl ⟨hs, rfl⟩⟩
      unfold B_X7_cover_2_24
      dsimp only
      rw [if_pos (by rw [h14]; exact nI_le (by omega) (by omega))]
      rfl
theorem cvr_1 {W : Nat → Nat} {N : Nat} (hN : N ≤ 32) (hW : ∀ c, c < N → W c < 32) {f : Nat → Int32} {g : Nat → Int64} (h14 : f 14 = nI N) : ∀ k, 1 + k ≤ 3 → ∀ (left fr : Nat) (a : Nat → Nat → Int32), left < 32 → fr ≤ N → (∀ c, c < N → a 26 c = nI (W c)) → CVP W N k 1 left fr f g a (F_X7_cover_1 f g a (nI left) (nI fr) (nI (1 + k))) := by
  intro k hk left fr a hl hfr ha
  unfold F_X7_cover_1 N_X7_cover_1_11
  cases k with
  | zero =>
    rw [if_pos (show nI (1 + 0) ≤ (1 : Int32) by decide)]
    exact cv_0 hl
  | succ k =>
    rw [if_neg (show ¬ nI (1 + (k + 1)) ≤ (1 : Int32) from nlt' (j := 1) (by omega) (by omega))]
    unfold N_X7_cover_1_24
    refine Exists.elim (lp_any (b := fun q24 : (Int32 × ST) => B_X7_cover_1_24 q24.2.1 q24.2.2.1 q24.2.2.2 (nI left) (nI (1 + (k + 1))) q24.1) (fun j s => s = (nI (fr + j), f, g, a) ∧ KK W N (k + 1) left fr = sr (fun c => KK W N k (rm W left c) (c + 1)) (32 ^ k) (N - fr - j) (fr + j)) (fun r => CVP W N (k + 1) 1 left fr f g a (some r)) (N - fr) ?_ ?_ (by omega) (nI fr, f, g, a) ⟨rfl, rfl⟩) ?_
    rotate_left 2
    · rintro r ⟨w1, w2⟩
      rw [w1]
      exact w2
    · rintro j hj s ⟨rfl, hs⟩
      have hc : fr + j < N := by omega
      have hw := hW _ hc
      have hrl : rm W left (fr + j) < 32 := rm_lt left hl _ hw
      have hb : B_X7_cover_1_24 f g a (nI left) (nI (1 + (k + 1))) (nI (fr + j)) = (F_X7_cover_2 f g a (nI (rm W left (fr + j))) (nI (fr + j + 1)) (nI (1 + (k + 1)))).bind fun r5 => if r5.1 = 0 then some (.inl (nI (fr + j + 1), r5.2.1, r5.2.2.1, r5.2.2.2)) else Option.map Sum.inr (some (1, r5.2.1, r5.2.2.1, us r5.2.2.2 27 (F_put 3 (r5.2.2.2 27) 1 (nI (fr + j))))) := by
        unfold B_X7_cover_1_24
        rw [if_neg (by rw [h14]; exact nlt' hc (by omega)), at_in (show fr + j < 32 by omega) (by omega), ha _ hc, m_m1, m_xor, m_and, nI_1]
        rfl
      have ih := cvr_2 hN hW (g := g) h14 k (by omega) (rm W left (fr + j)) (fr + j + 1) a hrl (by omega) ha
      rw [show 2 + k = 1 + (k + 1) by omega] at ih
      rw [show N - fr - j = (N - fr - (j + 1)) + 1 by omega, sr_e] at hs
      dsimp only
      rw [hb]
      rcases ih with ⟨i1, i2⟩ | ⟨code, a2, i1, i2, i3, i4⟩
      · left
        rw [i1] at hs
        refine ⟨(nI (fr + j + 1), f, g, a), ?_, rfl, hs⟩
        rw [i2]
        rfl
      · right
        rw [i1] at hs
        have hcode := (KK_some hN k _ _ code i1).1
        refine ⟨(1, f, g, us a2 27 (upd (a2 27) 1 (nI (fr + j)))), ?_, Or.inr ⟨(fr + j) * 32 ^ k + code, _, hs, rfl, fun t ht => by rw [us_n _ _ ht, i3 t ht], fun i hi => ?_⟩⟩
        · rw [i2, ← put_in (n := 3) (show 1 < 3 by decide) (by decide)]
          rfl
        · show upd (a2 27) 1 (nI (fr + j)) (1 + i) = _
          cases i with
          | zero =>
            rw [show 1 + 0 = 1 from rfl, upd_s]
            exact congrArg nI (dgt0 (by omega) (by omega) hcode)
          | succ i =>
            rw [upd_n _ _ (show 1 + (i + 1) ≠ 1 by omega), show 1 + (i + 1) = 2 + i by omega, i4 i (by omega)]
            exact congrArg nI (dgt (by omega) (by omega) hcode (by omega))
    · rintro s ⟨rfl, hs⟩
      rw [show N - fr - (N - fr) = 0 by omega] at hs
      refine ⟨(0, f, g, a), ?_, Or.inl ⟨hs, rfl⟩⟩
      unfold B_X7_cover_1_24
      dsimp only
      rw [if_pos (by rw [h14]; exact nI_le (by omega) (by omega))]
      rfl
theorem cvr_0 {W : Nat → Nat} {N : Nat} (hN : N ≤ 32) (hW : ∀ c, c < N → W c < 32) {f : Nat → Int32} {g : Nat → Int64} (h14 : f 14 = nI N) : ∀ k, 0 + k ≤ 3 → ∀ (left fr : Nat) (a : Nat → Nat → Int32), left < 32 → fr ≤ N → (∀ c, c < N → a 26 c = nI (W c)) → CVP W N k 0 left fr f g a (F_X7_cover_0 f g a (nI left) (nI fr) (nI (0 + k))) := by
  intro k hk left fr a hl hfr ha
  unfold F_X7_cover_0 N_X7_cover_0_11
  cases k with
  | zero =>
    rw [if_pos (show nI (0 + 0) ≤ (0 : Int32) by decide)]
    exact cv_0 hl
  | succ k =>
    rw [if_neg (show ¬ nI (0 + (k + 1)) ≤ (0 : Int32) from nlt' (j := 0) (by omega) (by omega))]
    unfold N_X7_cover_0_24
    refine Exists.elim (lp_any (b := fun q24 : (Int32 × ST) => B_X7_cover_0_24 q24.2.1 q24.2.2.1 q24.2.2.2 (nI left) (nI (0 + (k + 1))) q24.1) (fun j s => s = (nI (fr + j), f, g, a) ∧ KK W N (k + 1) left fr = sr (fun c => KK W N k (rm W left c) (c + 1)) (32 ^ k) (N - fr - j) (fr + j)) (fun r => CVP W N (k + 1) 0 left fr f g a (some r)) (N - fr) ?_ ?_ (by omega) (nI fr, f, g, a) ⟨rfl, rfl⟩) ?_
    rotate_left 2
    · rintro r ⟨w1, w2⟩
      rw [w1]
      exact w2
    · rintro j hj s ⟨rfl, hs⟩
      have hc : fr + j < N := by omega
      have hw := hW _ hc
      have hrl : rm W left (fr + j) < 32 := rm_lt left hl _ hw
      have hb : B_X7_cover_0_24 f g a (nI left) (nI (0 + (k + 1))) (nI (fr + j)) = (F_X7_cover_1 f g a (nI (rm W left (fr + j))) (nI (fr + j + 1)) (nI (0 + (k + 1)))).bind fun r5 => if r5.1 = 0 then some (.inl (nI (fr + j + 1), r5.2.1, r5.2.2.1, r5.2.2.2)) else Option.map Sum.inr (some (1, r5.2.1, r5.2.2.1, us r5.2.2.2 27 (F_put 3 (r5.2.2.2 27) 0 (nI (fr + j))))) := by
        unfold B_X7_cover_0_24
        rw [if_neg (by rw [h14]; exact nlt' hc (by omega)), at_in (show fr + j < 32 by omega) (by omega), ha _ hc, m_m1, m_xor, m_and, nI_1]
        rfl
      have ih := cvr_1 hN hW (g := g) h14 k (by omega) (rm W left (fr + j)) (fr + j + 1) a hrl (by omega) ha
      rw [show 1 + k = 0 + (k + 1) by omega] at ih
      rw [show N - fr - j = (N - fr - (j + 1)) + 1 by omega, sr_e] at hs
      dsimp only
      rw [hb]
      rcases ih with ⟨i1, i2⟩ | ⟨code, a2, i1, i2, i3, i4⟩
      · left
        rw [i1] at hs
        refine ⟨(nI (fr + j + 1), f, g, a), ?_, rfl, hs⟩
        rw [i2]
        rfl
      · right
        rw [i1] at hs
        have hcode := (KK_some hN k _ _ code i1).1
        refine ⟨(1, f, g, us a2 27 (upd (a2 27) 0 (nI (fr + j)))), ?_, Or.inr ⟨(fr + j) * 32 ^ k + code, _, hs, rfl, fun t ht => by rw [us_n _ _ ht, i3 t ht], fun i hi => ?_⟩⟩
        · rw [i2, ← put_in (n := 3) (show 0 < 3 by decide) (by decide)]
          rfl
        · show upd (a2 27) 0 (nI (fr + j)) (0 + i) = _
          cases i with
          | zero =>
            rw [show 0 + 0 = 0 from rfl, upd_s]
            exact congrArg nI (dgt0 (by omega) (by omega) hcode)
          | succ i =>
            rw [upd_n _ _ (show 0 + (i + 1) ≠ 0 by omega), show 0 + (i + 1) = 1 + i by omega, i4 i (by omega)]
            exact congrArg nI (dgt (by omega) (by omega) hcode (by omega))
    · rintro s ⟨rfl, hs⟩
      rw [show N - fr - (N - fr) = 0 by omega] at hs
      refine ⟨(0, f, g, a), ?_, Or.inl ⟨hs, rfl⟩⟩
      unfold B_X7_cover_0_24
      dsimp only
      rw [if_pos (by rw [h14]; exact nI_le (by omega) (by omega))]
      rfl
