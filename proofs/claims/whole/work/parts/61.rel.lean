/-! ===== 61: the relation of class and reference ===== -/
def enc (r : Nat → Nat) : Nat → Nat
  | 0 => 0
  | i + 1 => enc r i + r i * 4 ^ (4 - i)
def vset (V : Nat → Nat → Nat) (j : Nat) (r : Nat → Nat) : Nat → Nat → Nat := fun k => if k = j then r else V k
def nup (r : Nat → Nat) (i v : Nat) : Nat → Nat := fun j => if j = i then v else r j
def RT (n : Nat) (s s' : Int32) (K K' : Nat → Int32) (V : Nat → Nat → Nat) : Prop := n ≤ 5 ∧ s = nI n ∧ s' = nI n ∧ ∀ i, i < n → K i = nI (V 7 i) ∧ K' i = nI (V 7 i) ∧ V 7 i < 5
def PX (n hd : Nat) (V : Nat → Nat → Nat) (F L O : Nat → Int32) (ro cnt : Int32) (p q y : Nat → Int32) : Prop := (∀ i, i < n → F i = nI (V 0 i) ∧ L i = nI (V 1 i) ∧ O i = nI (V 2 i)) ∧ ro = nI (enc (V 3) n) ∧ cnt = nI hd ∧ ∀ i, i < hd → p i = nI (V 4 i) ∧ q i = nI (V 5 i) ∧ y i = nI (V 6 i)
def PM (n hd : Nat) (V : Nat → Nat → Nat) (H R Q : Nat → Int32) (cnt : Int32) (p q y : Nat → Int32) : Prop := (∀ i, i < n → H (2 * i) = nI (V 0 i) ∧ H (2 * i + 1) = nI (V 1 i) ∧ Q i = nI (V 2 i) ∧ R i = nI (V 3 i)) ∧ cnt = nI hd ∧ ∀ i, i < hd → p i = nI (V 4 i) ∧ q i = nI (V 5 i) ∧ y i = nI (V 6 i)
def PB (n hd : Nat) (V : Nat → Nat → Nat) : Prop := hd ≤ 6 ∧ (∀ i, i < n → V 0 i < n ∧ V 1 i < n ∧ V 2 i < 32 ∧ V 3 i < 4) ∧ ∀ i, i < hd → V 4 i < n ∧ V 5 i < 2 ^ n ∧ (V 5 i).testBit (V 4 i) = true ∧ V 6 i < 2
def RC (k tw mv dy : Nat) (f f' : Nat → Int32) : Prop := tw ≤ k ∧ f 0 = nI tw ∧ f' 0 = nI tw ∧ mv ≤ 40 ∧ f 2 = nI mv ∧ f' 12 = nI mv ∧ dy ≤ 40 ∧ f 3 = nI dy ∧ f' 13 = nI dy ∧ f 8 = f' 6 ∧ f 9 = f' 7
def RG (pl : Nat) (s s' : Int32) (P P' : Nat → Int32) (pg : Nat → Nat) : Prop := pl ≤ 21 ∧ s = nI pl ∧ s' = nI pl ∧ ∀ i, i < pl → P i = nI (pg i) ∧ P' i = nI (pg i) ∧ 32 ≤ pg i ∧ pg i ≤ 126
def RK (n tw : Nat) (f f' : Nat → Int32) (a a' : Nat → Nat → Int32) : Prop := (1 ≤ n → 1 ≤ tw) ∧ ((f 1 = 0 ∧ f' 19 = 0) ∨ ∃ kt, 1 ≤ kt ∧ kt ≤ tw ∧ f 1 = nI kt ∧ f' 19 = 1 ∧ f' 20 = nI kt ∧ (kt = tw → ∃ (hk : Nat) (VK : Nat → Nat → Nat), PX n hk VK (a 20) (a 21) (a 22) (f 10) (f 11) (a 23) (a 24) (a 25) ∧ PM n hk VK (a' 24) (a' 25) (a' 26) (f' 23) (a' 27) (a' 28) (a' 29) ∧ PB n hk VK ∧ f 12 = f' 21 ∧ f 13 = f' 22))
def Rel (k : Nat) (X M : ST) : Prop := ∃ (n hd tw mv dy pl : Nat) (V : Nat → Nat → Nat) (pg : Nat → Nat), RT n (X.1 5) (M.1 1) (X.2.2 31) (M.2.2 2) V ∧ PX n hd V (X.2.2 14) (X.2.2 15) (X.2.2 16) (X.1 6) (X.1 7) (X.2.2 17) (X.2.2 18) (X.2.2 19) ∧ PM n hd V (M.2.2 3) (M.2.2 4) (M.2.2 5) (M.1 8) (M.2.2 9) (M.2.2 10) (M.2.2 11) ∧ PB n hd V ∧ RC k tw mv dy X.1 M.1 ∧ RG pl (X.1 4) (M.1 14) (X.2.2 13) (M.2.2 15) pg ∧ RK n tw X.1 M.1 X.2.2 M.2.2
theorem Rel_mono (k : Nat) (X M : ST) (h : Rel k X M) : Rel (k + 4) X M := by
  obtain ⟨n, hd, tw, mv, dy, pl, V, pg, hT, hX, hM, hB, hC, hG, hK⟩ := h
  exact ⟨n, hd, tw, mv, dy, pl, V, pg, hT, hX, hM, hB, ⟨Nat.le_trans hC.1 (by omega), hC.2⟩, hG, hK⟩
theorem Rel_0 : Rel 0 (fI, gI, aI) (fI, gI, bI) := by
  refine ⟨0, 0, 0, 0, 0, 0, fun _ _ => 0, fun _ => 0, ⟨by omega, rfl, rfl, fun i h => absurd h (by omega)⟩, ⟨fun i h => absurd h (by omega), rfl, rfl, fun i h => absurd h (by omega)⟩, ⟨fun i h => absurd h (by omega), rfl, fun i h => absurd h (by omega)⟩, ⟨by omega, fun i h => absurd h (by omega), fun i h => absurd h (by omega)⟩, ⟨by omega, rfl, rfl, by omega, rfl, rfl, by omega, rfl, rfl, rfl, rfl⟩, ⟨by omega, rfl, rfl, fun i h => absurd h (by omega)⟩, ⟨fun h => absurd h (by omega), Or.inl ⟨rfl, rfl⟩⟩⟩
/-! arguments: a person, a set, a number within bounds -/
theorem w_in {j lo hi : Nat} (h1 : lo ≤ j) (h2 : j ≤ hi) (h3 : hi < 2 ^ 31) : F_X12_within (nI j) (nI lo) (nI hi) = 1 := by
  unfold F_X12_within
  rw [if_neg (fun z => by have := (nI_ltI (a := j) (b := lo) (by omega) (by omega)).mp z; omega), if_neg (fun z => by have := (nI_ltI (a := hi) (b := j) (by omega) (by omega)).mp z; omega)]
theorem w_case (x : Int32) (lo hi : Nat) (h3 : hi < 2 ^ 31) (hlo : lo < 2 ^ 31) : ((x < nI lo ∨ nI hi < x) ∧ F_X12_within x (nI lo) (nI hi) = 0) ∨ ∃ j, lo ≤ j ∧ j ≤ hi ∧ x = nI j ∧ F_X12_within x (nI lo) (nI hi) = 1 := by
  by_cases h1 : x < nI lo
  · left
    exact ⟨Or.inl h1, by unfold F_X12_within; rw [if_pos h1]⟩
  · by_cases h2 : nI hi < x
    · left
      exact ⟨Or.inr h2, by unfold F_X12_within; rw [if_neg h1, if_pos h2]⟩
    · right
      have h0 : ¬ x < 0 := by
        intro z
        apply h1
        rw [Int32.lt_iff_toInt_lt] at z ⊢
        rw [nI_toInt (by omega)]
        have e0 : (0 : Int32).toInt = 0 := by decide
        omega
      obtain ⟨j, hj, rfl⟩ := nI_of h0
      have a1 : lo ≤ j := by
        rcases Nat.lt_or_ge j lo with q | q
        · exact absurd (nI_lt q (by omega)) h1
        · exact q
      have a2 : j ≤ hi := by
        rcases Nat.lt_or_ge hi j with q | q
        · exact absurd (nI_lt q (by omega)) h2
        · exact q
      exact ⟨j, a1, a2, rfl, w_in a1 a2 h3⟩
theorem p_case {n : Nat} {f f' : Nat → Int32} {g g' : Nat → Int64} {a a' : Nat → Nat → Int32} (hn : n ≤ 5) (h : f 5 = nI n) (h' : f' 1 = nI n) (x : Int32) : (F_X9_has f g a x = 0 ∧ F_X12_isOne f' g' a' x = 0) ∨ ∃ p, p < n ∧ x = nI p ∧ F_X9_has f g a x = 1 ∧ F_X12_isOne f' g' a' x = 1 := by
  unfold F_X9_has F_X12_isOne F_X12_within
  rw [h, h']
  by_cases h0 : x < 0
  · left
    rw [if_pos h0, if_pos h0]
    exact ⟨rfl, rfl⟩
  · rw [if_neg h0, if_neg h0]
    obtain ⟨j, hj, rfl⟩ := nI_of h0
    have e1 : (nI n - (1 : Int32)).toInt = (n : Int) - 1 := pk_sub_toInt (a := n) (b := 1) (by omega) (by omega)
    rcases Nat.lt_or_ge j n with q | q
    · right
      refine ⟨j, q, rfl, ?_, ?_⟩
      · rw [if_neg (fun z => by have := (nI_leI (a := n) (b := j) (by omega) (by omega)).mp z; omega)]
      · rw [if_neg]
        intro z
        rw [Int32.lt_iff_toInt_lt, e1, nI_toInt hj] at z
        omega
    · left
      refine ⟨by rw [if_pos (nI_le q hj)], ?_⟩
      rw [if_pos]
      rw [Int32.lt_iff_toInt_lt, e1, nI_toInt hj]
      omega
theorem pow5 {n : Nat} (hn : n ≤ 5) : 2 ^ n ≤ 32 ∧ 1 ≤ 2 ^ n := by
  rcases (show n = 0 ∨ n = 1 ∨ n = 2 ∨ n = 3 ∨ n = 4 ∨ n = 5 by omega) with rfl | rfl | rfl | rfl | rfl | rfl <;> decide
theorem c_case {n : Nat} {f f' : Nat → Int32} {g g' : Nat → Int64} {a a' : Nat → Nat → Int32} (hn : n ≤ 5) (h : f 5 = nI n) (h' : f' 1 = nI n) (x : Int32) : (F_X9_isSetOfPeople f g a x = 0 ∧ F_X12_isCompany f' g' a' x = 0) ∨ ∃ c, c < 2 ^ n ∧ x = nI c ∧ F_X9_isSetOfPeople f g a x = 1 ∧ F_X12_isCompany f' g' a' x = 1 := by
  obtain ⟨h32, h1⟩ := pow5 hn
  unfold F_X9_isSetOfPeople F_X12_isCompany F_X12_within
  rw [h, h', m_shl1 (by omega)]
  by_cases h0 : x < 0
  · left
    rw [if_pos h0, if_pos h0]
    exact ⟨rfl, rfl⟩
  · rw [if_neg h0, if_neg h0]
    obtain ⟨j, hj, rfl⟩ := nI_of h0
    have e1 : (nI (2 ^ n) - (1 : Int32)).toInt = ((2 ^ n : Nat) : Int) - 1 := pk_sub_toInt (a := 2 ^ n) (b := 1) (by omega) (by omega)
    rcases Nat.lt_or_ge j (2 ^ n) with q | q
    · right
      refine ⟨j, q, rfl, ?_, ?_⟩
      · rw [if_neg (fun z => by have := (nI_leI (a := 2 ^ n) (b := j) (by omega) (by omega)).mp z; omega)]
      · rw [if_neg]
        intro z
        rw [Int32.lt_iff_toInt_lt, e1, nI_toInt hj] at z
        omega
    · left
      refine ⟨by rw [if_pos (nI_le q hj)], ?_⟩
      rw [if_pos]
      rw [Int32.lt_iff_toInt_lt, e1, nI_toInt hj]
      omega
/-! rooms in one number -/
theorem enc_at {r : Nat → Nat} {n i : Nat} (hn : n ≤ 5) (hi : i < 5) (hr : ∀ j, j < n → r j < 4) : enc r n / 4 ^ (4 - i) % 4 = if i < n then r i else 0 := by
  have h := hr
  rcases (show n = 0 ∨ n = 1 ∨ n = 2 ∨ n = 3 ∨ n = 4 ∨ n = 5 by omega) with rfl | rfl | rfl | rfl | rfl | rfl <;>
    rcases (show i = 0 ∨ i = 1 ∨ i = 2 ∨ i = 3 ∨ i = 4 by omega) with rfl | rfl | rfl | rfl | rfl <;>
    simp only [enc, Nat.zero_add, Nat.reduceSub, Nat.reducePow, Nat.reduceAdd] <;>
    (first | (have q0 := hr 0 (by omega)) | skip) <;> (first | (have q1 := hr 1 (by omega)) | skip) <;> (first | (have q2 := hr 2 (by omega)) | skip) <;> (first | (have q3 := hr 3 (by omega)) | skip) <;> (first | (have q4 := hr 4 (by omega)) | skip) <;>
    simp <;> omega
theorem enc_lt {r : Nat → Nat} {n : Nat} (hn : n ≤ 5) (hr : ∀ j, j < n → r j < 4) : enc r n < 1024 := by
  rcases (show n = 0 ∨ n = 1 ∨ n = 2 ∨ n = 3 ∨ n = 4 ∨ n = 5 by omega) with rfl | rfl | rfl | rfl | rfl | rfl <;>
    simp only [enc, Nat.zero_add, Nat.reduceSub, Nat.reducePow, Nat.reduceAdd] <;>
    (first | (have q0 := hr 0 (by omega)) | skip) <;> (first | (have q1 := hr 1 (by omega)) | skip) <;> (first | (have q2 := hr 2 (by omega)) | skip) <;> (first | (have q3 := hr 3 (by omega)) | skip) <;> (first | (have q4 := hr 4 (by omega)) | skip) <;> omega
theorem sh_eq : ∀ i, i < 5 → F_X11_shiftOf (nI i) = nI (2 * (4 - i)) := by decide +kernel
theorem sh_pw : ∀ i, i < 5 → 2 ^ (2 * (4 - i)) = 4 ^ (4 - i) := by decide +kernel
theorem roomIn_eq {e i : Nat} (he : e < 2 ^ 31) (hi : i < 5) : F_X11_roomIn (nI e) (nI i) = nI (e / 4 ^ (4 - i) % 4) := by
  unfold F_X11_roomIn
  rw [sh_eq i hi, m_shr he (by omega), m_a3, sh_pw i hi]
theorem wr_nat : ∀ i, i < 5 → ∀ r, r < 4 → ∀ e, e < 1024 → ((e &&& (3 * 2 ^ (2 * (4 - i)) ^^^ 4294967295)) ||| r * 2 ^ (2 * (4 - i))) = e - (e / 4 ^ (4 - i) % 4) * 4 ^ (4 - i) + r * 4 ^ (4 - i) := by decide +kernel
theorem sh_bd : ∀ i, i < 5 → ∀ r, r < 4 → r * 2 ^ (2 * (4 - i)) < 2 ^ 32 := by decide +kernel
theorem withRoom_eq {e i r : Nat} (he : e < 1024) (hi : i < 5) (hr : r < 4) : F_X11_withRoom (nI e) (nI i) (nI r) = nI (e - (e / 4 ^ (4 - i) % 4) * 4 ^ (4 - i) + r * 4 ^ (4 - i)) := by
  unfold F_X11_withRoom
  rw [sh_eq i hi, show (3 : Int32) = nI 3 from rfl, m_shl (by omega) (sh_bd i hi 3 (by omega)), m_shl (by omega) (sh_bd i hi r hr), m_m1, m_xor, m_and, m_or, wr_nat i hi r hr e he]
theorem enc_up {r : Nat → Nat} {n i v : Nat} (hn : n ≤ 5) (hi : i < n) (hr : ∀ j, j < n → r j < 4) : enc r n - (enc r n / 4 ^ (4 - i) % 4) * 4 ^ (4 - i) + v * 4 ^ (4 - i) = enc (nup r i v) n := by
  rw [enc_at hn (by omega) hr, if_pos hi]
  rcases (show n = 1 ∨ n = 2 ∨ n = 3 ∨ n = 4 ∨ n = 5 by omega) with rfl | rfl | rfl | rfl | rfl <;>
    rcases (show i = 0 ∨ i = 1 ∨ i = 2 ∨ i = 3 ∨ i = 4 by omega) with rfl | rfl | rfl | rfl | rfl <;>
    (first | omega | (simp [enc, nup] <;> omega))
