/-! ===== 64: who can be written ===== -/
def th (p h c o : Nat) : Bool := decide (h = p) || (c.testBit h && !o.testBit h)
def wr (k p h1 h2 c o : Nat) : Bool :=
  if k = 1 then (th p h1 c o && th p h2 c o) || decide (c = 2 ^ p)
  else if k = 2 then th p h1 c o || th p h2 c o
  else if k = 3 then th p h1 c o && th p h2 c o && decide (c &&& ((2 ^ p ||| 2 ^ h1 ||| 2 ^ h2) ^^^ 4294967295) = 0)
  else if k = 4 then th p h1 c o
  else th p h1 c o && th p h2 c o
def CX (n : Nat) (K O : Nat → Nat) (f : Nat → Int32) (a : Nat → Nat → Int32) : Prop := n ≤ 5 ∧ f 5 = nI n ∧ ∀ i, i < n → a 31 i = nI (K i) ∧ K i < 5 ∧ a 16 i = nI (O i) ∧ O i < 32
def CM (n : Nat) (K O : Nat → Nat) (f : Nat → Int32) (a : Nat → Nat → Int32) : Prop := n ≤ 5 ∧ f 1 = nI n ∧ ∀ i, i < n → a 2 i = nI (K i) ∧ K i < 5 ∧ a 5 i = nI (O i) ∧ O i < 32
theorem nz {x : Nat} (hx : x < 2 ^ 31) : (nI x = 0) ↔ x = 0 := nI_eq (b := 0) hx (by omega)
theorem th_bit {p h c o : Nat} (hh : h < 32) : ((c &&& (o ^^^ 4294967295)) ||| 2 ^ p).testBit h = th p h c o := by
  unfold th
  rw [Nat.testBit_or, Nat.testBit_and, Nat.testBit_xor, Nat.testBit_two_pow, show (4294967295 : Nat) = 2 ^ 32 - 1 from rfl, Nat.testBit_two_pow_sub_one]
  have e : decide (p = h) = decide (h = p) := by
    by_cases q : p = h
    · subst q; rfl
    · rw [decide_eq_false q, decide_eq_false (fun z => q z.symm)]
  rw [e, decide_eq_true hh]
  cases c.testBit h <;> cases o.testBit h <;> cases decide (h = p) <;> rfl
theorem fr_lt : ∀ c, c < 32 → ∀ o, o < 32 → ∀ p, p < 5 → ((c &&& (o ^^^ 4294967295)) ||| 2 ^ p) < 32 := by decide +kernel
theorem her_eq : ∀ c, c < 32 → ∀ p, p < 5 → c.testBit p = true → ((c &&& (2 ^ p ^^^ 4294967295)) = 0 ↔ c = 2 ^ p) := by decide +kernel
theorem her_lt : ∀ c, c < 32 → ∀ p, p < 5 → (c &&& (2 ^ p ^^^ 4294967295)) < 32 := by decide +kernel
theorem prd_eq : ∀ c, c < 32 → ∀ p, p < 5 → ∀ h, h < 5 → ∀ i, i < 5 → ((c &&& (2 ^ p ^^^ 4294967295)) &&& ((2 ^ h ||| 2 ^ i) ^^^ 4294967295)) = (c &&& ((2 ^ p ||| 2 ^ h ||| 2 ^ i) ^^^ 4294967295)) := by decide +kernel
theorem prd_lt : ∀ c, c < 32 → ∀ p, p < 5 → ∀ h, h < 5 → ∀ i, i < 5 → (c &&& ((2 ^ p ||| 2 ^ h ||| 2 ^ i) ^^^ 4294967295)) < 32 := by decide +kernel
theorem has_1 {n p : Nat} {f : Nat → Int32} {g : Nat → Int64} {a : Nat → Nat → Int32} (hn : n ≤ 5) (h : f 5 = nI n) (hp : p < n) : F_X9_has f g a (nI p) = 1 := by
  unfold F_X9_has
  rw [if_neg (nI_pos (by omega)), h, if_neg (fun z => by have := (nI_leI (a := n) (b := p) (by omega) (by omega)).mp z; omega)]
theorem pa_eq {n p : Nat} {K O : Nat → Nat} {f : Nat → Int32} {g : Nat → Int64} {a : Nat → Nat → Int32} (hC : CX n K O f a) (hp : p < n) : F_X9_personAt f g a (nI p) = nI (K p) := by
  obtain ⟨hn, h5, h⟩ := hC
  unfold F_X9_personAt
  rw [has_1 hn h5 hp, if_neg (by decide), if_neg (fun z => by have := (nI_leI (a := 5) (b := p) (by omega) (by omega)).mp z; omega), nI_clamp (by omega)]
  exact (h p hp).1
theorem cw_eq {n p c h1 h2 : Nat} {K O : Nat → Nat} {f : Nat → Int32} {g : Nat → Int64} {a : Nat → Nat → Int32} (hC : CX n K O f a) (hp : p < n) (hc : c < 32) (hh1 : h1 < 5) (hh2 : h2 < 5) : F_X9_couldWrite f g a (nI p) (nI c) (nI h1) (nI h2) = bi (c.testBit p && wr (K p) p h1 h2 c (O p)) := by
  have ePA := pa_eq (g := g) hC hp
  obtain ⟨hn, h5, h⟩ := hC
  obtain ⟨k1, k2, k3, k4⟩ := h p hp
  have p5 : p < 5 := by omega
  have eo : F_at 5 (a 16) (nI p) = nI (O p) := by rw [at_in p5 (by omega)]; exact k3
  have efr := fr_lt c hc (O p) k4 p p5
  have e1 : ((nI c &&& (nI (O p) ^^^ (-1 : Int32))) ||| nI (2 ^ p)) = nI ((c &&& (O p ^^^ 4294967295)) ||| 2 ^ p) := by rw [m_m1, m_xor, m_and, m_or]
  have e3 : (nI c &&& (nI (2 ^ p) ^^^ (-1 : Int32))) = nI (c &&& (2 ^ p ^^^ 4294967295)) := by rw [m_m1, m_xor, m_and]
  have e4 : (nI (c &&& (2 ^ p ^^^ 4294967295)) &&& ((nI (2 ^ h1) ||| nI (2 ^ h2)) ^^^ (-1 : Int32))) = nI (c &&& ((2 ^ p ||| 2 ^ h1 ||| 2 ^ h2) ^^^ 4294967295)) := by rw [m_m1, m_or, m_xor, m_and, prd_eq c hc p p5 h1 hh1 h2 hh2]
  have b1 := m_bit (c := (c &&& (O p ^^^ 4294967295)) ||| 2 ^ p) (h := h1) (by omega) (by omega)
  have b2 := m_bit (c := (c &&& (O p ^^^ 4294967295)) ||| 2 ^ p) (h := h2) (by omega) (by omega)
  rw [th_bit (by omega)] at b1 b2
  have hl := her_lt c hc p p5
  have pl := prd_lt c hc p p5 h1 hh1 h2 hh2
  unfold F_X9_couldWrite
  rw [ePA, eo, m_shl1 (show p < 31 by omega), m_bit (show c < 2 ^ 31 by omega) (show p < 32 by omega), e1, b1]
  have hK : K p = 0 ∨ K p = 1 ∨ K p = 2 ∨ K p = 3 ∨ K p = 4 := by omega
  cases ht : c.testBit p with
  | false => rcases hK with q | q | q | q | q <;> rw [q] <;> rfl
  | true =>
    have he := her_eq c hc p p5 ht
    rcases hK with q | q | q | q | q <;> rw [q] <;>
      simp only [N_X9_couldWrite_62, N_X9_couldWrite_80, N_X9_couldWrite_62v1, N_X9_couldWrite_80v1, N_X9_couldWrite_62v2, N_X9_couldWrite_80v2, N_X9_couldWrite_62v3, N_X9_couldWrite_80v3, N_X9_couldWrite_62v4, N_X9_couldWrite_80v4, b2, m_shl1 (show h1 < 31 by omega), m_shl1 (show h2 < 31 by omega), e4, e3] <;>
      unfold wr <;> cases th p h1 c (O p) <;> cases th p h2 c (O p) <;> simp only [F_X6_isSpelt, F_X2_isSpelt, F_X0_isSpelt, F_X8_isSpelt, F_X10_isSpelt, N_X2_isSpelt_12, N_X0_isSpelt_8, nz (show c &&& (2 ^ p ^^^ 4294967295) < 2 ^ 31 by omega), nz (show c &&& ((2 ^ p ||| 2 ^ h1 ||| 2 ^ h2) ^^^ 4294967295) < 2 ^ 31 by omega), he] <;>
      (first | rfl | (by_cases z : c = 2 ^ p <;> (first | (simp only [if_pos z, decide_eq_true z]; rfl) | (simp only [if_neg z, decide_eq_false z]; rfl))) | (by_cases z : c &&& ((2 ^ p ||| 2 ^ h1 ||| 2 ^ h2) ^^^ 4294967295) = 0 <;> (first | (simp only [if_pos z, decide_eq_true z]; rfl) | (simp only [if_neg z, decide_eq_false z]; rfl))))
theorem it_eq {n p c h : Nat} {K O : Nat → Nat} {f : Nat → Int32} {g : Nat → Int64} {a : Nat → Nat → Int32} (hC : CM n K O f a) (hp : p < n) (hc : c < 32) (hh : h < 5) : F_X12_isThere f g a (nI p) (nI h) (nI c) = some (bi (th p h c (O p))) := by
  obtain ⟨hn, h5, hv⟩ := hC
  obtain ⟨k1, k2, k3, k4⟩ := hv p hp
  unfold F_X12_isThere N_X12_isThere_26 th
  rw [gd_t (inB_nI (by omega) (by omega)), nI_clamp (by omega), k3, isIn_eq (by omega) (by omega), isIn_eq (by omega) (by omega)]
  by_cases q : h = p
  · subst q
    rw [if_pos rfl, decide_eq_true rfl]
    rfl
  · rw [if_neg (fun e => q ((nI_eq (by omega) (by omega)).mp e)), decide_eq_false q]
    cases c.testBit h <;> cases (O p).testBit h <;> rfl
theorem iw_eq {n p c h1 h2 : Nat} {K O : Nat → Nat} {f : Nat → Int32} {g : Nat → Int64} {a : Nat → Nat → Int32} (hC : CM n K O f a) (hp : p < n) (hc : c < 32) (hh1 : h1 < 5) (hh2 : h2 < 5) : F_X12_isWrittenBy f g a (nI p) (nI h1) (nI h2) (nI c) = some (bi (wr (K p) p h1 h2 c (O p))) := by
  have t1 := it_eq (g := g) hC hp hc hh1
  have t2 := it_eq (g := g) hC hp hc hh2
  obtain ⟨hn, h5, hv⟩ := hC
  obtain ⟨k1, k2, k3, k4⟩ := hv p hp
  have p5 : p < 5 := by omega
  have pl := prd_lt c hc p p5 h1 hh1 h2 hh2
  have e4 : (nI c &&& (((nI (2 ^ p) ||| nI (2 ^ h1)) ||| nI (2 ^ h2)) ^^^ (-1 : Int32))) = nI (c &&& ((2 ^ p ||| 2 ^ h1 ||| 2 ^ h2) ^^^ 4294967295)) := by rw [m_m1, m_or, m_or, m_xor, m_and]
  have pw : (2 : Nat) ^ p < 2 ^ 31 := Nat.pow_lt_pow_right (by decide) (by omega)
  have e5 : (nI c = nI (2 ^ p)) ↔ c = 2 ^ p := nI_eq (by omega) pw
  unfold F_X12_isWrittenBy
  rw [t1, t2]
  simp only [Option.bind_some]
  rw [gd_t (inB_nI (by omega) (by omega)), nI_clamp (by omega), k1]
  have hK : K p = 0 ∨ K p = 1 ∨ K p = 2 ∨ K p = 3 ∨ K p = 4 := by omega
  rcases hK with q | q | q | q | q <;> rw [q] <;>
    simp only [N_X12_isWrittenBy_74, N_X12_isWrittenBy_66, N_X12_isWrittenBy_90, m_shl1 (show p < 31 by omega), m_shl1 (show h1 < 31 by omega), m_shl1 (show h2 < 31 by omega), e4, e5, nz (show c &&& ((2 ^ p ||| 2 ^ h1 ||| 2 ^ h2) ^^^ 4294967295) < 2 ^ 31 by omega)] <;>
    unfold wr <;> cases th p h1 c (O p) <;> cases th p h2 c (O p) <;>
    (first | rfl | (by_cases z : c = 2 ^ p <;> (first | (simp only [if_pos z, decide_eq_true z]; rfl) | (simp only [if_neg z, decide_eq_false z]; rfl))) | (by_cases z : c &&& ((2 ^ p ||| 2 ^ h1 ||| 2 ^ h2) ^^^ 4294967295) = 0 <;> (first | (simp only [if_pos z, decide_eq_true z]; rfl) | (simp only [if_neg z, decide_eq_false z]; rfl))))
