/-! ===== 70: years ===== -/
def nx (s : Nat) : Nat := (1103515245 * s + 12345) % 2147483648
theorem nx_lt (s : Nat) : nx s < 2147483648 := Nat.mod_lt _ (by decide)
theorem l_bv (n : Nat) : (lN n).toBitVec = BitVec.ofNat 64 n := rfl
theorem l_and (a b : Nat) : lN a &&& lN b = lN (a &&& b) := by
  apply Int64.toBitVec_inj.mp
  rw [Int64.toBitVec_and, l_bv, l_bv, l_bv]
  apply BitVec.eq_of_toNat_eq
  simp [BitVec.toNat_and, BitVec.toNat_ofNat, Nat.and_mod_two_pow]
theorem nx_l (s : Nat) : (((1103515245 : Int64) * lN s) + (12345 : Int64)) &&& (2147483647 : Int64) = lN (nx s) := by
  rw [show (1103515245 : Int64) = lN 1103515245 from rfl, lN_mul, show (12345 : Int64) = lN 12345 from rfl, lN_add, show (2147483647 : Int64) = lN (2 ^ 31 - 1) from rfl, l_and, Nat.and_two_pow_sub_one_eq_mod]
  rfl
def dr (s d : Nat) : Nat := s / 65536 % d
theorem drX_eq {f : Nat → Int32} {g : Nat → Int64} {a : Nat → Nat → Int32} {s d : Nat} (hs : f 18 = nI s) (hs2 : s < 2147483648) (hd : 0 < d) (hd2 : d < 2 ^ 31) : F_X4_draw f g a (nI d) = some (nI (dr (nx s) d), upd f 18 (nI (nx s)), g, a) := by
  have h1 := nx_lt s
  unfold F_X4_draw
  rw [hs, nI_l (by omega), nx_l, lN_i, if_neg (fun z => by have := (nI_leI (a := d) (b := 0) hd2 (by omega)).mp z; omega), gd_t (by unfold nzB; rw [decide_eq_false (fun z => by have := (nz hd2).mp z; omega)]; rfl)]
  rw [show (upd f 18 (nI (nx s))) 18 = nI (nx s) from upd_s _ _ _, show (nI (nx s) >>> ((16 : Int32) &&& 31)) = nI (nx s / 2 ^ 16) from m_shr (k := 16) (by omega) (by omega), pk_rem (by omega) hd hd2]
  rfl
theorem drM_eq {f : Nat → Int32} {g : Nat → Int64} {a : Nat → Nat → Int32} {s d : Nat} (hs : g 17 = lN s) (hd : 0 < d) (hd2 : d < 2 ^ 31) : F_X12_draw f g a (nI d) = some (nI (dr (nx s) d), f, vp_updL g 17 (lN (nx s)), a) := by
  have h1 := nx_lt s
  have h2 : ¬ lN d = 0 := fun z => by
    have := (lN_eq (a := d) (b := 0) hd2 (by omega)).mp z
    omega
  unfold F_X12_draw
  rw [hs, nx_l, nI_l hd2, gd_t (by unfold nzL; rw [decide_eq_false h2]; rfl)]
  rw [show (vp_updL g 17 (lN (nx s))) 17 = lN (nx s) from rfl, show lN (nx s) / (65536 : Int64) = lN (nx s / 65536) from pk_lDiv (b := 65536) (by omega) (by omega) (by omega), pk_lRem (by omega) hd (by omega), lN_i]
  rfl
def ysd (s : Nat) : Nat → Nat
  | 0 => s
  | j + 1 => nx (nx (ysd s j))
def yR (n s : Nat) (R : Nat → Nat) : Nat → Nat → Nat
  | 0 => R
  | j + 1 => nup (yR n s R j) (dr (nx (ysd s j)) n) (dr (nx (nx (ysd s j))) 4)
def yc (V : Nat → Nat → Nat) (n s j : Nat) : Nat := cnt (fun p => wv V p (cset (sameR (yR n s (V 3) j) p) n)) n
def ytg (V : Nat → Nat → Nat) (n s : Nat) : Nat → Nat
  | 0 => 0
  | j + 1 => ytg V n s j + yc V n s (j + 1)
theorem ysd_lt {s : Nat} (hs : s < 2147483648) : ∀ j, ysd s j < 2147483648
  | 0 => hs
  | j + 1 => nx_lt _
theorem yR_lt {n s : Nat} {R : Nat → Nat} (hR : ∀ i, i < n → R i < 4) : ∀ j i, i < n → yR n s R j i < 4
  | 0, i, hi => hR i hi
  | j + 1, i, hi => nup_lt (Nat.mod_lt _ (by decide)) (yR_lt hR j i hi)
theorem play_eq {n s T : Nat} {V : Nat → Nat → Nat} {f : Nat → Int32} {g : Nat → Int64} {a : Nat → Nat → Int32} (h : LXv n V f a) (h6 : f 6 = nI (enc (V 3) n)) (hR : ∀ i, i < n → V 3 i < 4) (hn0 : 0 < n) (hs : s < 2147483648) (hT1 : 1 ≤ T) (hT2 : T ≤ 60) : ∃ f2, F_X4_play f g a (nI T) (nI s) = some (f2, g, a) ∧ f2 18 = nI (ysd s T) ∧ f2 19 = nI (ytg V n s T) ∧ f2 20 = nI (yc V n s T) ∧ ∀ t, t ≠ 18 → t ≠ 19 → t ≠ 20 → f2 t = f t := by
  have hn := h.1.1
  unfold F_X4_play N_X4_play_22
  refine Exists.elim (lp_inv (b := fun q22 : (Int32 × Int32 × ST) => B_X4_play_22 q22.2.2.1 q22.2.2.2.1 q22.2.2.2.2 (nI T) q22.1 q22.2.1) (fun j x => ∃ fj, x = (nI (enc (yR n s (V 3) j) n), nI j, fj, g, a) ∧ fj 18 = nI (ysd s j) ∧ fj 19 = nI (ytg V n s j) ∧ (1 ≤ j → fj 20 = nI (yc V n s j)) ∧ ∀ t, t ≠ 18 → t ≠ 19 → t ≠ 20 → fj t = f t) (fun r => ∃ f2, r = (f2, g, a) ∧ f2 18 = nI (ysd s T) ∧ f2 19 = nI (ytg V n s T) ∧ f2 20 = nI (yc V n s T) ∧ ∀ t, t ≠ 18 → t ≠ 19 → t ≠ 20 → f2 t = f t) T ?_ ?_ (by omega) ((upd (upd f 18 (nI s)) 19 0) 6, 0, upd (upd f 18 (nI s)) 19 0, g, a) ⟨upd (upd f 18 (nI s)) 19 0, by rw [show (upd (upd f 18 (nI s)) 19 0) 6 = f 6 from rfl, h6]; rfl, rfl, rfl, fun z => absurd z (by omega), fun t q1 q2 q3 => by rw [upd_n _ _ q2, upd_n _ _ q1]⟩) ?_
  rotate_left 2
  · rintro r ⟨w1, f2, rfl, w2⟩
    exact ⟨f2, w1, w2⟩
  · rintro j hj x ⟨fj, rfl, e18, e19, e20, ef⟩
    have e5 : fj 5 = nI n := (ef 5 (by decide) (by decide) (by decide)).trans h.1.2.1
    have hsd := ysd_lt hs j
    have hRj := yR_lt (n := n) (s := s) hR j
    have hw : dr (nx (ysd s j)) n < n := Nat.mod_lt _ hn0
    have hr : dr (nx (nx (ysd s j))) 4 < 4 := Nat.mod_lt _ (by decide)
    have lj : ∀ f3 : Nat → Int32, f3 5 = nI n → LXv n V f3 a := fun f3 h3 => ⟨⟨hn, h3, h.1.2.2⟩, h.2⟩
    refine ⟨(nI (enc (yR n s (V 3) (j + 1)) n), nI (j + 1), upd (upd (upd (upd fj 18 (nI (nx (ysd s j)))) 18 (nI (nx (nx (ysd s j))))) 20 (nI (yc V n s (j + 1)))) 19 (nI (ytg V n s (j + 1))), g, a), ?_, _, rfl, rfl, rfl, fun _ => rfl, ?_⟩
    · unfold B_X4_play_22
      dsimp only
      rw [if_neg (nlt' hj (by omega)), e5, drX_eq e18 hsd hn0 (by omega)]
      simp only [Option.bind_some]
      rw [show F_X4_draw (upd fj 18 (nI (nx (ysd s j)))) g a 4 = F_X4_draw (upd fj 18 (nI (nx (ysd s j)))) g a (nI 4) from rfl, drX_eq (s := nx (ysd s j)) (upd_s _ _ _) (nx_lt _) (by omega) (by omega)]
      simp only [Option.bind_some]
      rw [withRoom_eq (enc_lt hn hRj) (by omega) hr, enc_up hn hw hRj]
      rw [show enc (nup (yR n s (V 3) j) (dr (nx (ysd s j)) n) (dr (nx (nx (ysd s j))) 4)) n = enc (yR n s (V 3) (j + 1)) n from rfl, hmE_eq (lj (upd (upd fj 18 (nI (nx (ysd s j)))) 18 (nI (nx (nx (ysd s j))))) e5) (yR_lt hR (j + 1)), nI_1]
      simp only [Option.bind_some]
      have e3 : (upd (upd (upd fj 18 (nI (nx (ysd s j)))) 18 (nI (nx (nx (ysd s j))))) 20 (nI (yc V n s (j + 1)))) 19 = nI (ytg V n s j) := e19
      have e4 : (upd (upd (upd fj 18 (nI (nx (ysd s j)))) 18 (nI (nx (nx (ysd s j))))) 20 (nI (yc V n s (j + 1)))) 20 = nI (yc V n s (j + 1)) := rfl
      show some (Sum.inl (_, _, upd _ 19 ((upd (upd (upd fj 18 (nI (nx (ysd s j)))) 18 (nI (nx (nx (ysd s j))))) 20 (nI (yc V n s (j + 1)))) 19 + (upd (upd (upd fj 18 (nI (nx (ysd s j)))) 18 (nI (nx (nx (ysd s j))))) 20 (nI (yc V n s (j + 1)))) 20), g, a)) = _
      rw [e3, e4, nI_add]
      rfl
    · intro t q1 q2 q3
      rw [upd_n _ _ q2, upd_n _ _ q3, upd_n _ _ q1, upd_n _ _ q1, ef t q1 q2 q3]
  · rintro x ⟨fj, rfl, e18, e19, e20, ef⟩
    refine ⟨_, ?_, fj, rfl, e18, e19, e20 hT1, ef⟩
    unfold B_X4_play_22
    dsimp only
    rw [if_pos (nI_le (Nat.le_refl T) (by omega))]
    rfl
theorem yM_96 {n : Nat} {f : Nat → Int32} {g : Nat → Int64} {a : Nat → Nat → Int32} (hn : n ≤ 5) (h1 : f 1 = nI n) (x3 x4 x5 : Int32) : ∃ a2, N_X12_yearsNow_96 f g a x3 x4 x5 0 = (if x3 = 0 then some (x4, f, g, a2) else if x3 = 1 then some (x5, f, g, a2) else some ((g 17).toInt32, f, g, a2)) ∧ (∀ t, t ≠ 4 → a2 t = a t) ∧ ∀ i, i < n → a2 4 i = a 18 i := by
  unfold N_X12_yearsNow_96
  refine Exists.elim (lp_inv (b := fun q96 : (Int32 × ST) => B_X12_yearsNow_96 q96.2.1 q96.2.2.1 q96.2.2.2 x3 x4 x5 q96.1) (fun j s => ∃ aj, s = (nI j, f, g, aj) ∧ (∀ t, t ≠ 4 → aj t = a t) ∧ ∀ i, i < j → aj 4 i = a 18 i) (fun r => ∃ a2, some r = (if x3 = 0 then some (x4, f, g, a2) else if x3 = 1 then some (x5, f, g, a2) else some ((g 17).toInt32, f, g, a2)) ∧ (∀ t, t ≠ 4 → a2 t = a t) ∧ ∀ i, i < n → a2 4 i = a 18 i) n ?_ ?_ (by omega) (0, f, g, a) ⟨a, rfl, fun t _ => rfl, fun i h => absurd h (by omega)⟩) ?_
  rotate_left 2
  · rintro r ⟨w1, a2, w2, w3⟩
    exact ⟨a2, w1.trans w2, w3⟩
  · rintro j hj s ⟨aj, rfl, h0, h2⟩
    have e1 := h0 18 (by decide)
    refine ⟨(nI (j + 1), f, g, ua aj 4 j (aj 18 j)), ?_, _, rfl, ?_, ?_⟩
    · unfold B_X12_yearsNow_96
      dsimp only
      rw [if_neg (by rw [h1]; exact nlt' hj (by omega)), nI_1]
      simp only [gd_t (inB_nI (k := j) (n := 5) (by omega) (by omega)), nI_clamp (show j < 2 ^ 31 by omega)]
    · intro t q1
      rw [ua_n _ _ _ q1, h0 t q1]
    · rw [e1]; exact cp_up h2
  · rintro s ⟨aj, rfl, h0, h2⟩
    by_cases q0 : x3 = 0
    · refine ⟨(x4, f, g, aj), ?_, aj, by rw [if_pos q0], h0, h2⟩
      unfold B_X12_yearsNow_96
      dsimp only
      rw [if_pos (by rw [h1]; exact nI_le (Nat.le_refl n) (by omega)), if_pos q0]
      rfl
    · by_cases q1 : x3 = 1
      · refine ⟨(x5, f, g, aj), ?_, aj, by rw [if_neg q0, if_pos q1], h0, h2⟩
        unfold B_X12_yearsNow_96
        dsimp only
        rw [if_pos (by rw [h1]; exact nI_le (Nat.le_refl n) (by omega)), if_neg q0, if_pos q1]
        rfl
      · refine ⟨((g 17).toInt32, f, g, aj), ?_, aj, by rw [if_neg q0, if_neg q1], h0, h2⟩
        unfold B_X12_yearsNow_96
        dsimp only
        rw [if_pos (by rw [h1]; exact nI_le (Nat.le_refl n) (by omega)), if_neg q0, if_neg q1]
        rfl
theorem yM_44 {n s T : Nat} {V : Nat → Nat → Nat} {f : Nat → Int32} {g : Nat → Int64} {a : Nat → Nat → Int32} (h : LMv n V f a) (hg : g 17 = lN s) (hn0 : 0 < n) (hT2 : T ≤ 60) (x3 : Int32) : ∃ g2 a2, N_X12_yearsNow_44 f g a (nI T) x3 0 0 = (if x3 = 0 then some (nI (ytg V n s T), f, g2, a2) else if x3 = 1 then some (nI (yc V n s T), f, g2, a2) else some (nI (ysd s T), f, g2, a2)) ∧ (∀ t, t ≠ 4 → a2 t = a t) ∧ ∀ i, i < n → a2 4 i = a 18 i := by
  have hn := h.1.1
  have hR : ∀ i, i < n → V 3 i < 4 := fun i hi => (h.2 i hi).2.2.2.2.2
  unfold N_X12_yearsNow_44
  have lj : ∀ (j : Nat) (aj : Nat → Nat → Int32), (∀ t, t ≠ 4 → aj t = a t) → (∀ i, i < n → aj 4 i = nI (yR n s (V 3) j i)) → LMv n (vset V 3 (yR n s (V 3) j)) f aj := by
    intro j aj h0 h4
    refine ⟨⟨hn, h.1.2.1, fun i hi => ?_⟩, fun i hi => ?_⟩
    · rw [h0 2 (by decide), h0 5 (by decide)]
      exact h.1.2.2 i hi
    · rw [h0 3 (by decide)]
      obtain ⟨v1, v2, v3, v4, _, _⟩ := h.2 i hi
      exact ⟨v1, v2, v3, v4, h4 i hi, yR_lt hR j i hi⟩
  have wj : ∀ (j : Nat) (gj : Nat → Int64) (aj : Nat → Nat → Int32), (∀ t, t ≠ 4 → aj t = a t) → (∀ i, i < n → aj 4 i = nI (yR n s (V 3) j i)) → F_X12_writtenAll f gj aj = some (nI (yc V n s j)) := fun j gj aj h0 h4 => wa_eq (g := gj) (lj j aj h0 h4)
  refine Exists.elim (lp_inv (b := fun q44 : (Int32 × Int32 × ST) => B_X12_yearsNow_44 q44.2.2.1 q44.2.2.2.1 q44.2.2.2.2 (nI T) x3 q44.1 q44.2.1) (fun j x => ∃ gj aj, x = (nI (ytg V n s j), nI j, f, gj, aj) ∧ gj 17 = lN (ysd s j) ∧ (∀ t, t ≠ 4 → aj t = a t) ∧ ∀ i, i < n → aj 4 i = nI (yR n s (V 3) j i)) (fun r => ∃ g2 a2, some r = (if x3 = 0 then some (nI (ytg V n s T), f, g2, a2) else if x3 = 1 then some (nI (yc V n s T), f, g2, a2) else some (nI (ysd s T), f, g2, a2)) ∧ (∀ t, t ≠ 4 → a2 t = a t) ∧ ∀ i, i < n → a2 4 i = a 18 i) T ?_ ?_ (by omega) (0, 0, f, g, a) ⟨g, a, rfl, hg, fun t _ => rfl, fun i hi => (h.2 i hi).2.2.2.2.1⟩) ?_
  rotate_left 2
  · rintro r ⟨w1, g2, a2, w2, w3⟩
    exact ⟨g2, a2, w1.trans w2, w3⟩
  · rintro j hj x ⟨gj, aj, rfl, e17, h0, h4⟩
    have hw : dr (nx (ysd s j)) n < n := Nat.mod_lt _ hn0
    have h0' : ∀ t, t ≠ 4 → ua aj 4 (dr (nx (ysd s j)) n) (nI (dr (nx (nx (ysd s j))) 4)) t = a t := fun t q => by rw [ua_n _ _ _ q, h0 t q]
    have h4' : ∀ i, i < n → ua aj 4 (dr (nx (ysd s j)) n) (nI (dr (nx (nx (ysd s j))) 4)) 4 i = nI (yR n s (V 3) (j + 1) i) := fun i hi => upd_nup (fun _ => h4 i hi)
    refine ⟨(nI (ytg V n s (j + 1)), nI (j + 1), f, vp_updL (vp_updL gj 17 (lN (nx (ysd s j)))) 17 (lN (nx (nx (ysd s j)))), ua aj 4 (dr (nx (ysd s j)) n) (nI (dr (nx (nx (ysd s j))) 4))), ?_, _, _, rfl, pk_uLs, h0', h4'⟩
    unfold B_X12_yearsNow_44
    dsimp only
    rw [if_neg (nlt' hj (by omega)), h.1.2.1, drM_eq e17 hn0 (by omega)]
    simp only [Option.bind_some]
    rw [show F_X12_draw f (vp_updL gj 17 (lN (nx (ysd s j)))) aj 4 = F_X12_draw f (vp_updL gj 17 (lN (nx (ysd s j)))) aj (nI 4) from rfl, drM_eq (s := nx (ysd s j)) pk_uLs (by omega) (by omega)]
    simp only [Option.bind_some]
    rw [gd_t (inB_nI (by omega) (by omega)), nI_clamp (by omega), wj (j + 1) _ _ h0' h4']
    simp only [Option.bind_some]
    rw [nI_add, nI_1]
    rfl
  · rintro x ⟨gj, aj, rfl, e17, h0, h4⟩
    obtain ⟨a2, w1, w2, w3⟩ := yM_96 (g := gj) (a := aj) hn h.1.2.1 x3 (nI (ytg V n s T)) (nI (yc V n s T))
    rw [e17, lN_i] at w1
    have w4 : ∀ t, t ≠ 4 → a2 t = a t := fun t q => by rw [w2 t q, h0 t q]
    have w5 : ∀ i, i < n → a2 4 i = a 18 i := fun i hi => by rw [w3 i hi, h0 18 (by decide)]
    have key : B_X12_yearsNow_44 f gj aj (nI T) x3 (nI (ytg V n s T)) (nI T) = Option.map Sum.inr (N_X12_yearsNow_96 f gj aj x3 (nI (ytg V n s T)) (nI (yc V n s T)) 0) := by
      unfold B_X12_yearsNow_44
      rw [if_pos (nI_le (Nat.le_refl T) (by omega)), wj T _ _ h0 h4]
      rfl
    rw [w1] at key
    by_cases q0 : x3 = 0
    · rw [if_pos q0] at key
      exact ⟨_, key, gj, a2, by rw [if_pos q0], w4, w5⟩
    · by_cases q1 : x3 = 1
      · rw [if_neg q0, if_pos q1] at key
        exact ⟨_, key, gj, a2, by rw [if_neg q0, if_pos q1], w4, w5⟩
      · rw [if_neg q0, if_neg q1] at key
        exact ⟨_, key, gj, a2, by rw [if_neg q0, if_neg q1], w4, w5⟩
