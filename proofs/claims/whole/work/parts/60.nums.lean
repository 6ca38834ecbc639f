/-! ===== 60: numbers: small nats as ints, their bits ===== -/
theorem m_bv (n : Nat) : (nI n).toBitVec = BitVec.ofNat 32 n := rfl
theorem m_inj {x y : Int32} (h : x.toBitVec = y.toBitVec) : x = y := Int32.toBitVec_inj.mp h
theorem m_and (a b : Nat) : nI a &&& nI b = nI (a &&& b) := by
  apply m_inj
  rw [Int32.toBitVec_and, m_bv, m_bv, m_bv]
  apply BitVec.eq_of_toNat_eq
  simp [BitVec.toNat_and, BitVec.toNat_ofNat, Nat.and_mod_two_pow]
theorem m_or (a b : Nat) : nI a ||| nI b = nI (a ||| b) := by
  apply m_inj
  rw [Int32.toBitVec_or, m_bv, m_bv, m_bv]
  apply BitVec.eq_of_toNat_eq
  simp [BitVec.toNat_or, BitVec.toNat_ofNat, Nat.or_mod_two_pow]
theorem m_xor (a b : Nat) : nI a ^^^ nI b = nI (a ^^^ b) := by
  apply m_inj
  rw [Int32.toBitVec_xor, m_bv, m_bv, m_bv]
  apply BitVec.eq_of_toNat_eq
  simp [BitVec.toNat_xor, BitVec.toNat_ofNat, Nat.xor_mod_two_pow]
theorem m_m1 : (-1 : Int32) = nI 4294967295 := by decide +kernel
theorem m_cnt : ∀ n, n < 32 → ((nI n &&& 31).toBitVec.smod 32).toNat = n := by decide +kernel
theorem m_shr {a k : Nat} (ha : a < 2 ^ 31) (hk : k < 32) : nI a >>> (nI k &&& 31) = nI (a / 2 ^ k) := pk_shrN ha _ k (m_cnt k hk)
theorem m_shl {a k : Nat} (hk : k < 32) (h : a * 2 ^ k < 2 ^ 32) : nI a <<< (nI k &&& 31) = nI (a * 2 ^ k) := pk_shlN _ k (m_cnt k hk) h
theorem m_shl1 {k : Nat} (hk : k < 31) : (1 : Int32) <<< (nI k &&& 31) = nI (2 ^ k) := by
  have h2 : (2 : Nat) ^ k < 2 ^ 31 := Nat.pow_lt_pow_right (by decide) hk
  have h := m_shl (a := 1) (k := k) (by omega) (by omega)
  rw [Nat.one_mul] at h
  exact h
theorem m_a1 (a : Nat) : nI a &&& 1 = nI (a % 2) := by
  rw [show (1 : Int32) = nI 1 from rfl, m_and, Nat.and_one_is_mod]
theorem m_a3 (a : Nat) : nI a &&& 3 = nI (a % 4) := by
  rw [show (3 : Int32) = nI 3 from rfl, m_and, show (3 : Nat) = 2 ^ 2 - 1 from rfl, Nat.and_two_pow_sub_one_eq_mod]
def bi (b : Bool) : Int32 := if b then 1 else 0
theorem bi_t : bi true = 1 := rfl
theorem bi_f : bi false = 0 := rfl
theorem bi_1 {b : Bool} : bi b = 1 ↔ b = true := by cases b <;> decide
theorem bi_0 {b : Bool} : bi b = 0 ↔ b = false := by cases b <;> decide
theorem m_bit {c h : Nat} (hc : c < 2 ^ 31) (hh : h < 32) : (nI c >>> (nI h &&& 31)) &&& 1 = bi (c.testBit h) := by
  rw [m_shr hc hh, m_a1]
  have e : c.testBit h = decide (c / 2 ^ h % 2 = 1) := by rw [Nat.testBit_eq_decide_div_mod_eq]
  rw [e]
  rcases (show c / 2 ^ h % 2 = 0 ∨ c / 2 ^ h % 2 = 1 by omega) with q | q <;> rw [q] <;> rfl
theorem m_nn (n : Nat) (h : n < 2 ^ 31) : ¬ nI n < 0 := nI_pos h
theorem at_in {n i : Nat} {f : Nat → Int32} (h : i < n) (hn : n < 2 ^ 31) : F_at n f (nI i) = f i := by
  unfold F_at
  rw [if_neg (nI_pos (by omega)), if_neg, nI_clamp (by omega)]
  intro z
  have := (nI_leI (a := n) (b := i) hn (by omega)).mp z
  omega
theorem put_in {n i : Nat} {f : Nat → Int32} {v : Int32} (h : i < n) (hn : n < 2 ^ 31) : F_put n f (nI i) v = upd f i v := by
  unfold F_put
  rw [if_neg (nI_pos (by omega)), if_neg, nI_clamp (by omega)]
  intro z
  have := (nI_leI (a := n) (b := i) hn (by omega)).mp z
  omega
theorem lp_run {S R : Type} (b : S → Option (S ⊕ R)) (st : Nat → S) (r : R) : ∀ (k i : Nat), (∀ j, j < k → b (st (i + j)) = some (.inl (st (i + j + 1)))) → b (st (i + k)) = some (.inr r) → ∀ N, k < N → lpN b N (st i) = some r := by
  intro k
  induction k with
  | zero =>
    intro i _ h2 N hN
    obtain ⟨N, rfl⟩ : ∃ m, N = m + 1 := ⟨N - 1, by omega⟩
    exact lpN_o h2
  | succ k ih =>
    intro i h1 h2 N hN
    obtain ⟨N, rfl⟩ : ∃ m, N = m + 1 := ⟨N - 1, by omega⟩
    have h10 : b (st i) = some (.inl (st (i + 1))) := h1 0 (by omega)
    rw [lpN_i h10]
    refine ih (i + 1) (fun j hj => ?_) ?_ N (by omega)
    · have h3 := h1 (j + 1) (by omega)
      rw [show i + (j + 1) = i + 1 + j by omega] at h3
      exact h3
    · rw [show i + 1 + k = i + (k + 1) by omega]
      exact h2
/-- a loop whose states are st 0 .. st k, and that ends at st k with r -/
theorem lp_all {S R : Type} {b : S → Option (S ⊕ R)} (st : Nat → S) (k : Nat) (r : R) (s0 : S) (h0 : s0 = st 0) (h1 : ∀ j, j < k → b (st j) = some (.inl (st (j + 1)))) (h2 : b (st k) = some (.inr r)) (hk : k < 100000) : lpN b kFu s0 = some r := by
  subst h0
  exact lp_run b st r k 0 (fun j hj => by rw [Nat.zero_add]; exact h1 j hj) (by rw [Nat.zero_add]; exact h2) kFu hk
