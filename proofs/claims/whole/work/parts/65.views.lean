/-! ===== 65: companies, counts, letters, wants ===== -/
def LXv (n : Nat) (V : Nat → Nat → Nat) (f : Nat → Int32) (a : Nat → Nat → Int32) : Prop := CX n (V 7) (V 2) f a ∧ ∀ i, i < n → a 14 i = nI (V 0 i) ∧ a 15 i = nI (V 1 i) ∧ V 0 i < n ∧ V 1 i < n
def LMv (n : Nat) (V : Nat → Nat → Nat) (f : Nat → Int32) (a : Nat → Nat → Int32) : Prop := CM n (V 7) (V 2) f a ∧ ∀ i, i < n → a 3 (2 * i) = nI (V 0 i) ∧ a 3 (2 * i + 1) = nI (V 1 i) ∧ V 0 i < n ∧ V 1 i < n ∧ a 4 i = nI (V 3 i) ∧ V 3 i < 4
def wv (V : Nat → Nat → Nat) (p c : Nat) : Bool := wr (V 7 p) p (V 0 p) (V 1 p) c (V 2 p)
theorem nlt' {n j : Nat} (h : j < n) (hn : n < 2 ^ 31) : ¬ nI n ≤ nI j := fun z => by
  have := (nI_leI (a := n) (b := j) hn (by omega)).mp z
  omega
theorem can_eq {n p c : Nat} {V : Nat → Nat → Nat} {f : Nat → Int32} {g : Nat → Int64} {a : Nat → Nat → Int32} (h : LXv n V f a) (hp : p < n) (hc : c < 32) : F_X9_canWrite f g a (nI p) (nI c) = bi (c.testBit p && wv V p c) := by
  obtain ⟨hC, hv⟩ := h
  obtain ⟨v1, v2, v3, v4⟩ := hv p hp
  have hn := hC.1
  unfold F_X9_canWrite wv
  rw [at_in (show p < 5 by omega) (by omega), at_in (show p < 5 by omega) (by omega), v1, v2, cw_eq hC hp hc (by omega) (by omega)]
theorem isw_eq {n p c : Nat} {V : Nat → Nat → Nat} {f : Nat → Int32} {g : Nat → Int64} {a : Nat → Nat → Int32} (h : LMv n V f a) (hp : p < n) (hc : c < 32) : F_X12_isWritten f g a (nI p) (nI c) = some (bi (wv V p c)) := by
  obtain ⟨hC, hv⟩ := h
  obtain ⟨v1, v2, v3, v4, v5, v6⟩ := hv p hp
  have hn := hC.1
  unfold F_X12_isWritten wv
  rw [show (2 : Int32) * nI p = nI (2 * p) from pk_mul 2 p, nI_1, gd_t (inB_nI (by omega) (by omega)), gd_t (inB_nI (by omega) (by omega)), nI_clamp (by omega), nI_clamp (by omega), v1, v2, iw_eq hC hp hc (by omega) (by omega)]
  rfl
def cset (S : Nat → Bool) : Nat → Nat
  | 0 => 0
  | i + 1 => cset S i ||| (if S i then 2 ^ i else 0)
theorem cset_lt (S : Nat → Bool) : ∀ i, cset S i < 2 ^ i
  | 0 => by unfold cset; decide
  | i + 1 => by
    unfold cset
    have h1 := cset_lt S i
    have h2 : (2 : Nat) ^ (i + 1) = 2 ^ i + 2 ^ i := by rw [Nat.pow_succ]; omega
    apply Nat.or_lt_two_pow
    · omega
    · have h3 : 0 < (2 : Nat) ^ i := Nat.two_pow_pos i
      split <;> omega
theorem cset_bit (S : Nat → Bool) (j : Nat) : ∀ i, (cset S i).testBit j = (decide (j < i) && S j)
  | 0 => by simp [cset]
  | i + 1 => by
    unfold cset
    rw [Nat.testBit_or, cset_bit S j i]
    by_cases e : j = i
    · subst e
      cases S j <;> simp
    · have h1 : (if S i then 2 ^ i else 0).testBit j = false := by
        split
        · rw [Nat.testBit_two_pow]; exact decide_eq_false (fun z => e z.symm)
        · exact Nat.zero_testBit j
      rw [h1, Bool.or_false]
      have h2 : decide (j < i) = decide (j < i + 1) := by
        by_cases q : j < i
        · rw [decide_eq_true q, decide_eq_true (by omega)]
        · rw [decide_eq_false q, decide_eq_false (by omega)]
      rw [h2]
theorem cset_congr {S T : Nat → Bool} : ∀ n, (∀ i, i < n → S i = T i) → cset S n = cset T n
  | 0, _ => rfl
  | n + 1, h => by
    unfold cset
    rw [cset_congr n (fun i hi => h i (by omega)), h n (by omega)]
theorem cset_32 {S : Nat → Bool} {n i : Nat} (hn : n ≤ 5) (hi : i ≤ n) : cset S i < 32 := by
  have h1 := cset_lt S i
  have h2 : (2 : Nat) ^ i ≤ 2 ^ 5 := Nat.pow_le_pow_right (by decide) (by omega)
  omega
def sameE (e p i : Nat) : Bool := decide (e / 4 ^ (4 - i) % 4 = e / 4 ^ (4 - p) % 4)
def sameR (R : Nat → Nat) (p i : Nat) : Bool := decide (R i = R p)
theorem ci_eq {n e p : Nat} {f : Nat → Int32} {g : Nat → Int64} {a : Nat → Nat → Int32} (hn : n ≤ 5) (h5 : f 5 = nI n) (he : e < 1024) (hp : p < 5) : F_X9_companyIn f g a (nI e) (nI p) = some (nI (cset (sameE e p) n)) := by
  unfold F_X9_companyIn N_X9_companyIn_12
  rw [roomIn_eq (by omega) hp]
  refine lp_all (fun j => (nI (cset (sameE e p) j), nI j)) n _ _ rfl ?_ ?_ (by omega)
  · intro j hj
    unfold B_X9_companyIn_12 N_X9_companyIn_40
    dsimp only
    rw [h5, if_neg (nlt' hj (by omega)), roomIn_eq (by omega) (by omega), m_shl1 (by omega), m_or, nI_1]
    have r1 : e / 4 ^ (4 - j) % 4 < 4 := Nat.mod_lt _ (by decide)
    have r2 : e / 4 ^ (4 - p) % 4 < 4 := Nat.mod_lt _ (by decide)
    by_cases q : e / 4 ^ (4 - j) % 4 = e / 4 ^ (4 - p) % 4
    · rw [if_pos (by rw [q])]
      have : sameE e p j = true := decide_eq_true q
      simp only [cset, this, if_true]
    · rw [if_neg (fun z => q ((nI_eq (by omega) (by omega)).mp z))]
      have : sameE e p j = false := decide_eq_false q
      simp [cset, this]
  · unfold B_X9_companyIn_12
    dsimp only
    rw [h5, if_pos (nI_le (Nat.le_refl n) (by omega))]
    rfl
theorem co_eq {n p : Nat} {V : Nat → Nat → Nat} {f : Nat → Int32} {g : Nat → Int64} {a : Nat → Nat → Int32} (h : LMv n V f a) (hp : p < n) : F_X12_companyOf f g a (nI p) = some (nI (cset (sameR (V 3) p) n)) := by
  obtain ⟨hC, hv⟩ := h
  have hn := hC.1
  have h5 := hC.2.1
  unfold F_X12_companyOf N_X12_companyOf_4
  refine lp_all (fun j => (nI (cset (sameR (V 3) p) j), nI j)) n _ _ rfl ?_ ?_ (by omega)
  · intro j hj
    unfold B_X12_companyOf_4 N_X12_companyOf_35
    dsimp only
    obtain ⟨_, _, _, _, j5, j6⟩ := hv j hj
    obtain ⟨_, _, _, _, p5, p6⟩ := hv p hp
    rw [h5, if_neg (nlt' hj (by omega)), gd_t (inB_nI (by omega) (by omega)), gd_t (inB_nI (by omega) (by omega)), nI_clamp (by omega), nI_clamp (by omega), j5, p5, m_shl1 (by omega), m_or, nI_1, show (0 : Int32) = nI 0 from rfl, m_or]
    by_cases q : V 3 j = V 3 p
    · rw [if_pos (by rw [q])]
      have : sameR (V 3) p j = true := decide_eq_true q
      simp only [cset, this, if_true]
    · rw [if_neg (fun z => q ((nI_eq (by omega) (by omega)).mp z))]
      have : sameR (V 3) p j = false := decide_eq_false q
      simp [cset, this]
  · unfold B_X12_companyOf_4
    dsimp only
    rw [h5, if_pos (nI_le (Nat.le_refl n) (by omega))]
    rfl
theorem same_ER {R : Nat → Nat} {n p : Nat} (hn : n ≤ 5) (hR : ∀ i, i < n → R i < 4) (hp : p < n) : ∀ i, i < n → sameE (enc R n) p i = sameR R p i := by
  intro i hi
  unfold sameE sameR
  rw [enc_at hn (by omega) hR, enc_at hn (by omega) hR, if_pos hi, if_pos hp]
theorem cset_self {S : Nat → Bool} {n p : Nat} (hp : p < n) (h : S p = true) : (cset S n).testBit p = true := by
  rw [cset_bit, h, decide_eq_true hp]
  rfl
def cnt (Q : Nat → Bool) : Nat → Nat
  | 0 => 0
  | i + 1 => cnt Q i + (if Q i then 1 else 0)
theorem cnt_le (Q : Nat → Bool) : ∀ i, cnt Q i ≤ i
  | 0 => by unfold cnt; omega
  | i + 1 => by
    unfold cnt
    have := cnt_le Q i
    split <;> omega
theorem cnt_congr {S T : Nat → Bool} : ∀ n, (∀ i, i < n → S i = T i) → cnt S n = cnt T n
  | 0, _ => rfl
  | n + 1, h => by
    unfold cnt
    rw [cnt_congr n (fun i hi => h i (by omega)), h n (by omega)]
theorem hm_eq {n e : Nat} {V : Nat → Nat → Nat} {f : Nat → Int32} {g : Nat → Int64} {a : Nat → Nat → Int32} (h : LXv n V f a) (he : e < 1024) : F_X9_howManyWritten f g a (nI e) = some (nI (cnt (fun p => wv V p (cset (sameE e p) n)) n)) := by
  have hn := h.1.1
  have h5 := h.1.2.1
  unfold F_X9_howManyWritten N_X9_howManyWritten_4
  refine lp_all (fun j => (nI (cnt (fun p => wv V p (cset (sameE e p) n)) j), nI j)) n _ _ rfl ?_ ?_ (by omega)
  · intro j hj
    unfold B_X9_howManyWritten_4 N_X9_howManyWritten_29
    dsimp only
    rw [h5, if_neg (nlt' hj (by omega)), ci_eq hn h5 he (by omega)]
    simp only [Option.bind_some]
    rw [can_eq h hj (cset_32 hn (Nat.le_refl n)), cset_self hj (decide_eq_true rfl), Bool.true_and, nI_1, nI_1]
    cases q : wv V j (cset (sameE e j) n) <;> simp [cnt, q, bi]
  · unfold B_X9_howManyWritten_4
    dsimp only
    rw [h5, if_pos (nI_le (Nat.le_refl n) (by omega))]
    rfl
theorem now_eq {n p : Nat} {V : Nat → Nat → Nat} {f : Nat → Int32} {g : Nat → Int64} {a : Nat → Nat → Int32} (h : LMv n V f a) (hp : p < n) : F_X12_isWrittenNow f g a (nI p) = some (bi (wv V p (cset (sameR (V 3) p) n))) := by
  unfold F_X12_isWrittenNow
  rw [co_eq h hp]
  simp only [Option.bind_some]
  rw [isw_eq h hp (cset_32 h.1.1 (Nat.le_refl n))]
  rfl
theorem wa_eq {n : Nat} {V : Nat → Nat → Nat} {f : Nat → Int32} {g : Nat → Int64} {a : Nat → Nat → Int32} (h : LMv n V f a) : F_X12_writtenAll f g a = some (nI (cnt (fun p => wv V p (cset (sameR (V 3) p) n)) n)) := by
  have hn := h.1.1
  have h5 := h.1.2.1
  unfold F_X12_writtenAll N_X12_writtenAll_4
  refine lp_all (fun j => (nI (cnt (fun p => wv V p (cset (sameR (V 3) p) n)) j), nI j)) n _ _ rfl ?_ ?_ (by omega)
  · intro j hj
    unfold B_X12_writtenAll_4 N_X12_writtenAll_26
    dsimp only
    rw [h5, if_neg (nlt' hj (by omega)), now_eq h hj]
    simp only [Option.bind_some]
    rw [nI_1, nI_1]
    cases q : wv V j (cset (sameR (V 3) j) n) <;> simp [cnt, q, bi]
  · unfold B_X12_writtenAll_4
    dsimp only
    rw [h5, if_pos (nI_le (Nat.le_refl n) (by omega))]
    rfl
theorem nand_rc (a b c : Nat) : a &&& b &&& c = a &&& c &&& b := by rw [Nat.and_assoc, Nat.and_comm b c, ← Nat.and_assoc]
def wan (V : Nat → Nat → Nat) (n p : Nat) : Nat → Nat
  | 0 => 2 ^ n - 1
  | c + 1 => if (c.testBit p && wv V p c) then wan V n p c &&& c else wan V n p c
theorem pow1 {n : Nat} : nI (2 ^ n) - (1 : Int32) = nI (2 ^ n - 1) := pk_sub (a := 2 ^ n) (b := 1) (Nat.two_pow_pos n)
theorem wants_eq {n p : Nat} {V : Nat → Nat → Nat} {f : Nat → Int32} {g : Nat → Int64} {a : Nat → Nat → Int32} (h : LXv n V f a) (hp : p < n) : F_X9_wants f g a (nI p) = some (nI (wan V n p (2 ^ n) &&& (2 ^ p ^^^ 4294967295))) := by
  have hn := h.1.1
  have h5 := h.1.2.1
  have h32 := (pow5 hn).1
  unfold F_X9_wants N_X9_wants_11
  rw [h5, m_shl1 (by omega), pow1]
  refine lp_all (fun j => (nI (wan V n p j), nI j)) (2 ^ n) _ _ rfl ?_ ?_ (by omega)
  · intro j hj
    unfold B_X9_wants_11 N_X9_wants_34
    dsimp only
    rw [h5, m_shl1 (by omega), if_neg (nlt' hj (by omega)), can_eq h hp (by omega), nI_1, m_and]
    cases q : (j.testBit p && wv V p j) <;> simp [wan, q, bi]
  · unfold B_X9_wants_11
    dsimp only
    rw [h5, m_shl1 (by omega), if_pos (nI_le (Nat.le_refl _) (by omega)), m_shl1 (by omega), m_m1, m_xor, m_and]
    rfl
theorem wantsM_eq {n p : Nat} {V : Nat → Nat → Nat} {f : Nat → Int32} {g : Nat → Int64} {a : Nat → Nat → Int32} (h : LMv n V f a) (hp : p < n) : F_X12_wantsOf f g a (nI p) = some (nI (wan V n p (2 ^ n) &&& (2 ^ p ^^^ 4294967295))) := by
  have hn := h.1.1
  have h5 := h.1.2.1
  have h32 := (pow5 hn).1
  unfold F_X12_wantsOf N_X12_wantsOf_17
  rw [h5, m_shl1 (by omega), pow1, m_shl1 (by omega), m_m1, m_xor, m_and]
  refine lp_all (fun j => (nI (wan V n p j &&& (2 ^ p ^^^ 4294967295)), nI j)) (2 ^ n) _ _ rfl ?_ ?_ (by omega)
  · intro j hj
    unfold B_X12_wantsOf_17 N_X12_wantsOf_50 N_X12_wantsOf_51
    dsimp only
    rw [h5, m_shl1 (by omega), if_neg (nlt' hj (by omega)), isIn_eq (by omega) (by omega), isw_eq h hp (by omega), nI_1, m_and, nand_rc]
    cases q : j.testBit p <;> cases q2 : wv V p j <;> simp [wan, q, q2, bi]
  · unfold B_X12_wantsOf_17
    dsimp only
    rw [h5, m_shl1 (by omega), if_pos (nI_le (Nat.le_refl _) (by omega))]
    rfl
