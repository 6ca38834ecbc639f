/-! ===== 74: holders' step; invite ===== -/
theorem s_holders : st_holders Rel := by
  intro k hk f g a f' g' a' x y h
  have h0 := h
  obtain ⟨n, hd, tw, mv, dy, pl, V, pg, hT, hX, hM, hB, hC, hG, hK⟩ := h
  have hn := hT.1
  have gx : GX n hd V f a := Rel_gx (f' := f') (a' := a') hT hX hB
  have gm : GM n hd V f' a' := Rel_gm (f := f) (a := a) hT hM hB
  rcases p_case (f := f) (f' := f') (g := g) (g' := g') (a := a) (a' := a') hT.1 hT.2.1 hT.2.2.1 x with ⟨z1, z2⟩ | ⟨p, hp, rfl, z1, z2⟩
  · refine ⟨-101, (f, g, a), ?_, ?_, Rel_mono _ _ _ h0⟩
    · unfold F_X11_holders
      rw [if_pos z1]
    · unfold F_X12_holders
      rw [if_pos z2]
  rcases w_case y 0 1 (by omega) (by omega) with ⟨hw, hz⟩ | ⟨w, _, h2, rfl, hz⟩
  · have hz : F_X12_within y 0 1 = 0 := hz
    refine ⟨-102, (f, g, a), ?_, ?_, Rel_mono _ _ _ h0⟩
    · unfold F_X11_holders
      rw [if_neg (by rw [z1]; decide)]
      by_cases c1 : y < 0
      · rw [if_pos c1]
      · rw [if_neg c1, if_neg]
        rcases hw with hw | hw
        · exact absurd hw c1
        · exact m_ltL (b := 1) (by omega) hw
    · unfold F_X12_holders
      rw [if_neg (by rw [z2]; decide), if_pos hz]
  have hz : F_X12_within (nI w) 0 1 = 1 := hz
  obtain ⟨f2, a2, w1, w2⟩ := gat_eq (g := g) gx hp
  obtain ⟨r1, r2, r3, r4, r5⟩ := Rel_gather (g := g) hT hX hC hG hK w2
  have hRel : Rel (k + 4) (f2, g, a2) (f', g', a') := ⟨n, hd, tw, mv, dy, pl, V, pg, r1, r2, hM, hB, ⟨Nat.le_trans r3.1 (by omega), r3.2⟩, r4, r5⟩
  have eM : F_X12_holders f' g' a' (nI p) (nI w) = some (if nI w = 0 then nI (cnt (AA V hd n p) (n * n)) else ls (AA V hd n p) n (n * n) 0) := by
    unfold F_X12_holders
    rw [if_neg (by rw [z2]; decide), if_neg (by rw [hz]; decide), hnM_eq gm hp]
    rfl
  have eX : F_X11_holders f g a (nI p) (nI w) = if nI w = 0 then some (f2 17, f2, g, a2) else some (F_X1_least f2 g a2, f2, g, a2) := by
    unfold F_X11_holders
    rw [if_neg (by rw [z1]; decide), if_neg (nI_pos (by omega)), if_pos (show nI w ≤ (1 : Int32) from nI_le (b := 1) h2 (by omega)), w1]
    rfl
  by_cases c0 : nI w = 0
  · exact ⟨nI (cnt (AA V hd n p) (n * n)), (f2, g, a2), by rw [eX, if_pos c0, w2.2.1], by rw [eM, if_pos c0], hRel⟩
  · exact ⟨ls (AA V hd n p) n (n * n) 0, (f2, g, a2), by rw [eX, if_neg c0, least_eq hn w2], by rw [eM, if_neg c0], hRel⟩
def AW (V : Nat → Nat → Nat) (hd n p c e : Nat) : Bool := AA V hd n p e && wr (V 7 p) p (e / n) (e % n) c (V 2 p)
theorem cnt_s (Q : Nat → Bool) (i : Nat) : cnt Q (i + 1) = cnt Q i + (if Q i then 1 else 0) := rfl
theorem cnt_nx {A B : Nat → Bool} (hAB : ∀ e, A e = false → B e = false) {N : Nat} : ∀ d e, e + d = N → cnt A e < cnt A N → ∃ e', e ≤ e' ∧ e' < N ∧ A e' = true ∧ cnt A e' = cnt A e ∧ cnt B e' = cnt B e
  | 0, e, he, h => by rw [Nat.add_zero] at he; subst he; exact absurd h (by omega)
  | d + 1, e, he, h => by
    cases q : A e with
    | true => exact ⟨e, Nat.le_refl e, by omega, q, rfl, rfl⟩
    | false =>
      have e1 : cnt A (e + 1) = cnt A e := by rw [cnt_s, q]; rfl
      have e2 : cnt B (e + 1) = cnt B e := by rw [cnt_s, hAB e q]; rfl
      obtain ⟨e', a1, a2, a3, a4, a5⟩ := cnt_nx hAB (N := N) d (e + 1) (by omega) (by rw [e1]; exact h)
      exact ⟨e', by omega, a2, a3, by rw [a4, e1], by rw [a5, e2]⟩
theorem cnt_end {A B : Nat → Bool} (hAB : ∀ e, A e = false → B e = false) {N : Nat} : ∀ d e, e + d = N → cnt A e = cnt A N → cnt B e = cnt B N
  | 0, e, he, h => by rw [Nat.add_zero] at he; subst he; rfl
  | d + 1, e, he, h => by
    cases q : A e with
    | true =>
      have := cnt_lt A (show e < N by omega) q
      omega
    | false =>
      have e1 : cnt A (e + 1) = cnt A e := by rw [cnt_s, q]; rfl
      have e2 : cnt B (e + 1) = cnt B e := by rw [cnt_s, hAB e q]; rfl
      rw [← e2]
      exact cnt_end hAB (N := N) d (e + 1) (by omega) (by rw [e1]; exact h)
def bw (V : Nat → Nat → Nat) (hd n p c : Nat) : Nat := if cnt (AW V hd n p c) (n * n) < cnt (AA V hd n p) (n * n) - cnt (AW V hd n p c) (n * n) then cnt (AA V hd n p) (n * n) - cnt (AW V hd n p c) (n * n) else cnt (AW V hd n p c) (n * n)
theorem cnt_sub {A B : Nat → Bool} (hAB : ∀ e, A e = false → B e = false) : ∀ N, cnt B N ≤ cnt A N
  | 0 => Nat.le_refl _
  | N + 1 => by
    have := cnt_sub hAB N
    rw [cnt_s, cnt_s]
    cases q : A N with
    | true => split <;> simp <;> omega
    | false => rw [hAB N q]; simpa using this
theorem AW_sub {V : Nat → Nat → Nat} {hd n p c : Nat} : ∀ e, AA V hd n p e = false → AW V hd n p c e = false := fun e h => by unfold AW; rw [h]; rfl
theorem law_eq {V : Nat → Nat → Nat} {hd n p c : Nat} {f f2 : Nat → Int32} {g : Nat → Int64} {a a2 : Nat → Nat → Int32} (h : GX n hd V f a) (hp : p < n) (hc : c < 2 ^ n) (ht : c.testBit p = true) (hG : GI V hd n p f a (n * n) f2 a2) : F_X1_leftAtWorst f2 g a2 (nI c) = some (nI (bw V hd n p c)) := by
  have hn := h.1.1.1
  have h32 := (pow5 hn).1
  have h25 : n * n ≤ 5 * 5 := Nat.mul_le_mul hn hn
  obtain ⟨g1, g2, g3, g4, g5⟩ := hG
  have hx := GX_tr h g3 g4
  have hm := cnt_le (AA V hd n p) (n * n)
  have hsub := cnt_sub (AW_sub (V := V) (hd := hd) (n := n) (p := p) (c := c)) (n * n)
  unfold F_X1_leftAtWorst N_X1_leftAtWorst_5
  refine Exists.elim (lp_inv (b := fun q5 : (Int32 × Int32) => B_X1_leftAtWorst_5 f2 g a2 (nI c) q5.1 q5.2) (fun i s => ∃ e, e ≤ n * n ∧ cnt (AA V hd n p) e = i ∧ s = (nI (cnt (AW V hd n p c) e), nI i)) (fun r => r = nI (bw V hd n p c)) (cnt (AA V hd n p) (n * n)) ?_ ?_ (by omega) (0, 0) ⟨0, by omega, rfl, rfl⟩) ?_
  rotate_left 2
  · rintro r ⟨w1, rfl⟩
    exact w1
  · rintro i hi s ⟨e, he, hei, rfl⟩
    obtain ⟨e', b1, b2, b3, b4, b5⟩ := cnt_nx (AW_sub (V := V) (hd := hd) (n := n) (p := p) (c := c)) (N := n * n) (n * n - e) e (by omega) (by rw [hei]; exact hi)
    obtain ⟨k1, k2⟩ := g5 e' b2 b3
    rw [b4, hei] at k1 k2
    have hd' : e' / n < n := Nat.div_lt_of_lt_mul b2
    have hm' : e' % n < n := Nat.mod_lt _ (by omega)
    refine ⟨(nI (cnt (AW V hd n p c) (e' + 1)), nI (i + 1)), ?_, e' + 1, b2, by rw [cnt_s, b4, hei, b3]; rfl, rfl⟩
    unfold B_X1_leftAtWorst_5 N_X1_leftAtWorst_47
    dsimp only
    rw [if_neg (by rw [g2]; exact nlt' hi (by omega)), g1, at_in (show i < 25 by omega) (by omega), at_in (show i < 25 by omega) (by omega), k1, k2, cw_eq hx.1.1 hp (show c < 32 by omega) (by omega) (by omega), ht, Bool.true_and, nI_1, nI_1, cnt_s, ← b5]
    have eAW : AW V hd n p c e' = wr (V 7 p) p (e' / n) (e' % n) c (V 2 p) := by unfold AW; rw [b3]; rfl
    rw [eAW]
    cases wr (V 7 p) p (e' / n) (e' % n) c (V 2 p) <;> rfl
  · rintro s ⟨e, he, hei, rfl⟩
    have e1 := cnt_end (AW_sub (V := V) (hd := hd) (n := n) (p := p) (c := c)) (N := n * n) (n * n - e) e (by omega) hei
    refine ⟨_, ?_, rfl⟩
    unfold B_X1_leftAtWorst_5
    dsimp only
    rw [if_pos (by rw [g2]; exact nI_le (Nat.le_refl _) (by omega)), g2, e1, pk_sub hsub]
    unfold bw
    by_cases q : cnt (AW V hd n p c) (n * n) < cnt (AA V hd n p) (n * n) - cnt (AW V hd n p c) (n * n)
    · rw [if_pos q, if_pos (nI_lt q (by omega))]
      rfl
    · rw [if_neg q, if_neg (nI_nlt (by omega) (by omega))]
      rfl
theorem ways_eq {V : Nat → Nat → Nat} {hd n p c : Nat} {f : Nat → Int32} {g : Nat → Int64} {a : Nat → Nat → Int32} (h : GM n hd V f a) (hp : p < n) (hc : c < 2 ^ n) : F_X12_writtenWays f g a (nI p) (nI c) = some (nI (cnt (AW V hd n p c) (n * n))) := by
  have hn := h.1.1.1
  have h1 := h.1.1.2.1
  have h32 := (pow5 hn).1
  have h25 : n * n ≤ 5 * 5 := Nat.mul_le_mul hn hn
  have hnb : nzB (nI n) = true := by
    unfold nzB
    rw [decide_eq_false (fun z => by have := (nz (by omega)).mp z; omega)]
    rfl
  unfold F_X12_writtenWays N_X12_writtenWays_5
  refine lp_all (fun j => (nI (cnt (AW V hd n p c) j), nI j)) (n * n) _ _ rfl ?_ ?_ (by omega)
  · intro e he
    have hd' : e / n < n := Nat.div_lt_of_lt_mul he
    have hm' : e % n < n := Nat.mod_lt _ (by omega)
    have hrem : nI e - nI (e / n) * nI n = nI (e % n) := by
      have := pk_rem (a := e) (d := n) (by omega) (by omega) (by omega)
      rwa [pk_div (by omega) (by omega) (by omega)] at this
    unfold B_X12_writtenWays_5 N_X12_writtenWays_67 N_X12_writtenWays_68
    dsimp only
    rw [if_neg (by rw [h1, pk_mul]; exact nlt' he (by omega)), h1]
    simp only [gd_t hnb, hrem, pk_div (show e < 2 ^ 31 by omega) (show 0 < n by omega) (show n < 2 ^ 31 by omega), agM_eq h hp (show e / n < 5 by omega) (show e % n < 5 by omega), iw_eq h.1.1 hp (show c < 32 by omega) (show e / n < 5 by omega) (show e % n < 5 by omega), Option.bind_some, nI_1]
    rw [cnt_s, show agf V p (e / n) (e % n) hd = AA V hd n p e from rfl]
    unfold AW
    cases AA V hd n p e <;> cases wr (V 7 p) p (e / n) (e % n) c (V 2 p) <;> simp [bi]
  · unfold B_X12_writtenWays_5
    dsimp only
    rw [if_pos (by rw [h1, pk_mul]; exact nI_le (Nat.le_refl _) (by omega))]
    rfl
def bs (V : Nat → Nat → Nat) (hd n p : Nat) : Nat → Option (Nat × Nat)
  | 0 => none
  | c + 1 => if c.testBit p then (match bs V hd n p c with
    | none => some (c, bw V hd n p c)
    | some q => if q.2 ≤ bw V hd n p c then some q else some (c, bw V hd n p c)) else bs V hd n p c
theorem bw_le {V : Nat → Nat → Nat} {hd n p c : Nat} : bw V hd n p c ≤ cnt (AA V hd n p) (n * n) := by
  have hsub := cnt_sub (AW_sub (V := V) (hd := hd) (n := n) (p := p) (c := c)) (n * n)
  unfold bw
  split <;> omega
theorem bs_b {V : Nat → Nat → Nat} {hd n p : Nat} : ∀ c q, bs V hd n p c = some q → q.1 < c ∧ q.2 ≤ cnt (AA V hd n p) (n * n)
  | 0, q, h => by cases h
  | c + 1, q, h => by
    rw [show bs V hd n p (c + 1) = if c.testBit p then (match bs V hd n p c with
      | none => some (c, bw V hd n p c)
      | some q => if q.2 ≤ bw V hd n p c then some q else some (c, bw V hd n p c)) else bs V hd n p c from rfl] at h
    have hb := bw_le (V := V) (hd := hd) (n := n) (p := p) (c := c)
    by_cases ht : c.testBit p
    · rw [if_pos ht] at h
      cases e : bs V hd n p c with
      | none =>
        rw [e] at h
        cases h
        exact ⟨by omega, hb⟩
      | some q' =>
        rw [e] at h
        obtain ⟨i1, i2⟩ := bs_b c q' e
        by_cases hq : q'.2 ≤ bw V hd n p c
        · simp only [if_pos hq] at h
          cases h
          exact ⟨by omega, i2⟩
        · simp only [if_neg hq] at h
          cases h
          exact ⟨by omega, hb⟩
    · rw [if_neg ht] at h
      obtain ⟨i1, i2⟩ := bs_b c q h
      exact ⟨by omega, i2⟩
def bst (o : Option (Nat × Nat)) (z : Int32) : Int32 × Int32 := match o with
  | none => (-1, z)
  | some q => (nI q.1, nI q.2)
def bsr (o : Option (Nat × Nat)) : Int32 := (bst o 0).1
theorem set_1 {n c : Nat} {f : Nat → Int32} {g : Nat → Int64} {a : Nat → Nat → Int32} (hn : n ≤ 5) (h5 : f 5 = nI n) (hc : c < 2 ^ n) : F_X9_isSetOfPeople f g a (nI c) = 1 := by
  have h32 := (pow5 hn).1
  unfold F_X9_isSetOfPeople
  rw [if_neg (nI_pos (by omega)), h5, m_shl1 (by omega), if_neg (nlt' hc (by omega))]
theorem best_eq {V : Nat → Nat → Nat} {hd n p : Nat} {f f2 : Nat → Int32} {g : Nat → Int64} {a a2 : Nat → Nat → Int32} (h : GX n hd V f a) (hp : p < n) (hG : GI V hd n p f a (n * n) f2 a2) : F_X1_bestCompany f2 g a2 = some (if cnt (AA V hd n p) (n * n) = 0 then -1 else bsr (bs V hd n p (2 ^ n))) := by
  have hn := h.1.1.1
  have h32 := (pow5 hn).1
  have h25 : n * n ≤ 5 * 5 := Nat.mul_le_mul hn hn
  have hGc := hG
  obtain ⟨g1, g2, g3, g4, g5⟩ := hG
  have hx := GX_tr h g3 g4
  have e5 : f2 5 = nI n := hx.1.1.2.1
  have hm := cnt_le (AA V hd n p) (n * n)
  unfold F_X1_bestCompany
  by_cases q0 : cnt (AA V hd n p) (n * n) = 0
  · rw [if_pos q0, g2, if_pos ((nz (by omega)).mpr q0)]
  rw [if_neg q0, g2, if_neg (fun z => q0 ((nz (by omega)).mp z)), nI_1]
  unfold N_X1_bestCompany_21
  refine lp_all (fun c => ((bst (bs V hd n p c) (nI (cnt (AA V hd n p) (n * n) + 1))).1, (bst (bs V hd n p c) (nI (cnt (AA V hd n p) (n * n) + 1))).2, nI c)) (2 ^ n) _ _ rfl ?_ ?_ (by omega)
  · intro c hc
    have hb := bw_le (V := V) (hd := hd) (n := n) (p := p) (c := c)
    unfold B_X1_bestCompany_21 N_X1_bestCompany_66
    dsimp only
    rw [if_neg (by rw [e5, m_shl1 (by omega)]; exact nlt' hc (by omega)), g1, isCo_eq (n := n) (set_1 hn e5 hc) (by omega) (by omega), nI_1]
    rw [show bs V hd n p (c + 1) = if c.testBit p then (match bs V hd n p c with
      | none => some (c, bw V hd n p c)
      | some q => if q.2 ≤ bw V hd n p c then some q else some (c, bw V hd n p c)) else bs V hd n p c from rfl]
    cases ht : c.testBit p with
    | false => rfl
    | true =>
      rw [law_eq h hp hc ht hGc, if_neg (by decide), if_pos rfl]
      simp only [Option.bind_some]
      cases e : bs V hd n p c with
      | none =>
        show (if nI (cnt (AA V hd n p) (n * n) + 1) ≤ nI (bw V hd n p c) then _ else _) = _
        rw [if_neg (nlt' (by omega) (by omega))]
        rfl
      | some q =>
        obtain ⟨i1, i2⟩ := bs_b c q e
        show (if nI q.2 ≤ nI (bw V hd n p c) then _ else _) = _
        by_cases hq : q.2 ≤ bw V hd n p c
        · rw [if_pos (nI_le hq (by omega))]
          simp only [if_pos hq]
        · rw [if_neg (nlt' (by omega) (by omega))]
          simp only [if_neg hq]
          rfl
  · unfold B_X1_bestCompany_21
    dsimp only
    rw [if_pos (by rw [e5, m_shl1 (by omega)]; exact nI_le (Nat.le_refl _) (by omega))]
    cases e : bs V hd n p (2 ^ n) <;> rfl
theorem inv_eq {V : Nat → Nat → Nat} {hd n p : Nat} {f : Nat → Int32} {g : Nat → Int64} {a : Nat → Nat → Int32} (h : GM n hd V f a) (hp : p < n) : F_X12_inviteNow f g a (nI p) = some (if cnt (AA V hd n p) (n * n) = 0 then -1 else bsr (bs V hd n p (2 ^ n))) := by
  have hn := h.1.1.1
  have h1 := h.1.1.2.1
  have h32 := (pow5 hn).1
  have h25 : n * n ≤ 5 * 5 := Nat.mul_le_mul hn hn
  have hm := cnt_le (AA V hd n p) (n * n)
  unfold F_X12_inviteNow
  rw [hnM_eq h hp]
  simp only [Option.bind_some, if_true]
  unfold N_X12_inviteNow_16
  by_cases q0 : cnt (AA V hd n p) (n * n) = 0
  · rw [if_pos q0, q0]
    refine lp_all (fun _ => (-1, 268435456, 0)) 0 _ _ rfl (fun j hj => absurd hj (by omega)) ?_ (by omega)
    unfold B_X12_inviteNow_16
    dsimp only
    have h1p := (pow5 hn).2
    rw [if_neg (by rw [h1, m_shl1 (by omega)]; exact nlt' (j := 0) (by omega) (by omega)), if_pos (show nI 0 ≤ (0 : Int32) by decide)]
    rfl
  rw [if_neg q0]
  refine lp_all (fun c => ((bst (bs V hd n p c) 268435456).1, (bst (bs V hd n p c) 268435456).2, nI c)) (2 ^ n) _ _ rfl ?_ ?_ (by omega)
  · intro c hc
    have hb := bw_le (V := V) (hd := hd) (n := n) (p := p) (c := c)
    have hsub := cnt_sub (AW_sub (V := V) (hd := hd) (n := n) (p := p) (c := c)) (n * n)
    unfold B_X12_inviteNow_16 N_X12_inviteNow_67 N_X12_inviteNow_82 N_X12_inviteNow_97 N_X12_inviteNow_99
    dsimp only
    rw [if_neg (by rw [h1, m_shl1 (by omega)]; exact nlt' hc (by omega)), if_neg (show ¬ nI (cnt (AA V hd n p) (n * n)) ≤ (0 : Int32) from nlt' (j := 0) (by omega) (by omega)), isIn_eq (by omega) (by omega), nI_1, ways_eq h hp hc]
    rw [show bs V hd n p (c + 1) = if c.testBit p then (match bs V hd n p c with
      | none => some (c, bw V hd n p c)
      | some q => if q.2 ≤ bw V hd n p c then some q else some (c, bw V hd n p c)) else bs V hd n p c from rfl]
    cases ht : c.testBit p with
    | false => rfl
    | true =>
      rw [if_neg (by decide), if_pos rfl]
      simp only [Option.bind_some, pk_sub hsub]
      have hbw : ∀ (K : Int32 → Option ((Int32 × Int32 × Int32) ⊕ Int32)), (if nI (cnt (AW V hd n p c) (n * n)) ≤ nI (cnt (AA V hd n p) (n * n) - cnt (AW V hd n p c) (n * n)) then K (nI (cnt (AA V hd n p) (n * n) - cnt (AW V hd n p c) (n * n))) else K (nI (cnt (AW V hd n p c) (n * n)))) = K (nI (bw V hd n p c)) := by
        intro K
        unfold bw
        by_cases w : cnt (AW V hd n p c) (n * n) ≤ cnt (AA V hd n p) (n * n) - cnt (AW V hd n p c) (n * n)
        · rw [if_pos (nI_le w (by omega))]
          by_cases w2 : cnt (AW V hd n p c) (n * n) < cnt (AA V hd n p) (n * n) - cnt (AW V hd n p c) (n * n)
          · rw [if_pos w2]
          · rw [if_neg w2, show cnt (AA V hd n p) (n * n) - cnt (AW V hd n p c) (n * n) = cnt (AW V hd n p c) (n * n) by omega]
        · rw [if_neg (nlt' (by omega) (by omega)), if_neg (by omega)]
      rw [hbw (fun t0 => if (bst (bs V hd n p c) 268435456).2 ≤ t0 then if (bst (bs V hd n p c) 268435456).2 ≤ t0 then some (.inl ((bst (bs V hd n p c) 268435456).1, (bst (bs V hd n p c) 268435456).2, nI (c + 1))) else some (.inl ((bst (bs V hd n p c) 268435456).1, t0, nI (c + 1))) else if (bst (bs V hd n p c) 268435456).2 ≤ t0 then some (.inl (nI c, (bst (bs V hd n p c) 268435456).2, nI (c + 1))) else some (.inl (nI c, t0, nI (c + 1))))]
      cases e : bs V hd n p c with
      | none =>
        have w3 : ¬ (268435456 : Int32) ≤ nI (bw V hd n p c) := nlt' (n := 268435456) (by omega) (by omega)
        show (if (268435456 : Int32) ≤ nI (bw V hd n p c) then _ else if (268435456 : Int32) ≤ nI (bw V hd n p c) then _ else _) = _
        rw [if_neg w3, if_neg w3]
        rfl
      | some q =>
        obtain ⟨i1, i2⟩ := bs_b c q e
        show (if nI q.2 ≤ nI (bw V hd n p c) then (if nI q.2 ≤ nI (bw V hd n p c) then _ else _) else if nI q.2 ≤ nI (bw V hd n p c) then _ else _) = _
        by_cases hq : q.2 ≤ bw V hd n p c
        · rw [if_pos (nI_le hq (by omega)), if_pos (nI_le hq (by omega))]
          simp only [if_pos hq]
        · rw [if_neg (nlt' (by omega) (by omega)), if_neg (nlt' (by omega) (by omega))]
          simp only [if_neg hq]
          rfl
  · unfold B_X12_inviteNow_16
    dsimp only
    rw [if_pos (by rw [h1, m_shl1 (by omega)]; exact nI_le (Nat.le_refl _) (by omega))]
    cases e : bs V hd n p (2 ^ n) <;> rfl
theorem s_invite : st_invite Rel := by
  intro k hk f g a f' g' a' x h
  have h0 := h
  obtain ⟨n, hd, tw, mv, dy, pl, V, pg, hT, hX, hM, hB, hC, hG, hK⟩ := h
  have hn := hT.1
  have gx : GX n hd V f a := Rel_gx (f' := f') (a' := a') hT hX hB
  have gm : GM n hd V f' a' := Rel_gm (f := f) (a := a) hT hM hB
  rcases p_case (f := f) (f' := f') (g := g) (g' := g') (a := a) (a' := a') hT.1 hT.2.1 hT.2.2.1 x with ⟨z1, z2⟩ | ⟨p, hp, rfl, z1, z2⟩
  · refine ⟨-101, (f, g, a), ?_, ?_, Rel_mono _ _ _ h0⟩
    · unfold F_X11_invite
      rw [if_pos z1]
    · unfold F_X12_invite
      rw [if_pos z2]
  obtain ⟨f2, a2, w1, w2⟩ := gat_eq (g := g) gx hp
  obtain ⟨r1, r2, r3, r4, r5⟩ := Rel_gather (g := g) hT hX hC hG hK w2
  refine ⟨if cnt (AA V hd n p) (n * n) = 0 then -1 else bsr (bs V hd n p (2 ^ n)), (f2, g, a2), ?_, ?_, n, hd, tw, mv, dy, pl, V, pg, r1, r2, hM, hB, ⟨Nat.le_trans r3.1 (by omega), r3.2⟩, r4, r5⟩
  · unfold F_X11_invite
    rw [if_neg (by rw [z1]; decide), w1]
    simp only [Option.bind_some]
    rw [best_eq gx hp w2]
    rfl
  · unfold F_X12_invite
    rw [if_neg (by rw [z2]; decide), inv_eq gm hp]
    rfl
