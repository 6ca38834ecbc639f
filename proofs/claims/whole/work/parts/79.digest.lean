/-! ===== 79: digest ===== -/
def hx (c : Int64) (x : Int32) : Int64 := (31 : Int64) * c + x.toInt64
def hA (V : Nat → Nat → Nat) (n p : Nat) (c : Int64) : Nat → Int64
  | 0 => c
  | w + 1 => hx (hA V n p c w) (abv V n p w)
def hQ (V : Nat → Nat → Nat) (hd n : Nat) : Nat → Int64
  | 0 => 983
  | p + 1 => hx (hx (hx (hA V n p (hQ V hd n p) 9) (nI (cnt (AA V hd n p) (n * n)))) (ls (AA V hd n p) n (n * n) 0)) (if cnt (AA V hd n p) (n * n) = 0 then -1 else bsr (bs V hd n p (2 ^ n)))
def hL (c : Int64) (pg : Nat → Nat) : Nat → Int64
  | 0 => c
  | i + 1 => hx (hL c pg i) (nI (pg i))
def hC (c : Int64) (v : Nat → Int32) : Nat → Int64
  | 0 => c
  | i + 1 => hx (hC c v i) (v i)
def hD (V : Nat → Nat → Nat) (hd n pl : Nat) (pg : Nat → Nat) (f : Nat → Int32) : Int64 := hC (hL (hQ V hd n n) pg pl) (cov V n f) 10
theorem nle9 {j : Nat} (h : j < 9) : ¬ (9 : Int32) ≤ nI j := nlt' (n := 9) h (by omega)
theorem dgX_eq {V : Nat → Nat → Nat} {hd n pl : Nat} {pg : Nat → Nat} {f : Nat → Int32} {g : Nat → Int64} {a : Nat → Nat → Int32} (h : GX n hd V f a) (h6 : f 6 = nI (enc (V 3) n)) (hR : ∀ i, i < n → V 3 i < 4) (hpl : pl ≤ 21) (h4 : f 4 = nI pl) (hP : ∀ i, i < pl → a 13 i = nI (pg i)) : ∃ f2 a2, F_X11_digest f g a = some (hD V hd n pl pg f, f2, g, a2) ∧ (∀ t, t ≠ 16 → t ≠ 17 → f2 t = f t) ∧ (∀ t, t ≠ 28 → t ≠ 29 → a2 t = a t) := by
  have hn := h.1.1.1
  unfold F_X11_digest N_X11_digest_6
  refine Exists.elim (lp_inv (b := fun q6 : (Int64 × Int32 × ST) => B_X11_digest_6 q6.2.2.1 q6.2.2.2.1 q6.2.2.2.2 q6.1 q6.2.1) (fun j s => ∃ fj aj, s = (hQ V hd n j, nI j, fj, g, aj) ∧ (∀ t, t ≠ 16 → t ≠ 17 → fj t = f t) ∧ (∀ t, t ≠ 28 → t ≠ 29 → aj t = a t)) (fun r => ∃ f2 a2, r = (hD V hd n pl pg f, f2, g, a2) ∧ (∀ t, t ≠ 16 → t ≠ 17 → f2 t = f t) ∧ (∀ t, t ≠ 28 → t ≠ 29 → a2 t = a t)) n ?_ ?_ (by omega) (983, 0, f, g, a) ⟨f, a, rfl, fun t _ _ => rfl, fun t _ _ => rfl⟩) ?_
  rotate_left 2
  · rintro r ⟨w1, f2, a2, rfl, w2⟩
    exact ⟨f2, a2, w1, w2⟩
  · rintro j hj s ⟨fj, aj, rfl, w1, w2⟩
    have gx : GX n hd V fj aj := GX_tr h w1 w2
    have e5 : fj 5 = nI n := gx.1.1.2.1
    have e6 : fj 6 = nI (enc (V 3) n) := by rw [w1 6 (by decide) (by decide), h6]
    obtain ⟨f2, a2, g1, g2⟩ := gat_eq (g := g) gx hj
    refine ⟨(hQ V hd n (j + 1), nI (j + 1), f2, g, a2), ?_, f2, a2, rfl, fun t t1 t2 => by rw [g2.2.2.1 t t1 t2, w1 t t1 t2], fun t t1 t2 => by rw [g2.2.2.2.1 t t1 t2, w2 t t1 t2]⟩
    unfold B_X11_digest_6 N_X11_digest_20
    dsimp only
    rw [if_neg (by rw [e5]; exact nlt' hj (by omega))]
    refine lp_all (fun w => (hA V n j (hQ V hd n j) w, nI w, fj, g, aj)) 9 _ _ rfl ?_ ?_ (by omega)
    · intro w hw
      unfold B_X11_digest_20
      dsimp only
      rw [if_neg (nle9 hw), tell_eq gx.1 e6 hR hj hw, nI_1]
      rfl
    · unfold B_X11_digest_20
      dsimp only
      rw [if_pos (show (9 : Int32) ≤ nI 9 by decide), g1]
      simp only [Option.bind_some]
      rw [best_eq gx hj g2, least_eq hn g2, g2.2.1, nI_1]
      rfl
  · rintro s ⟨fj, aj, rfl, w1, w2⟩
    have gx : GX n hd V fj aj := GX_tr h w1 w2
    have e5 : fj 5 = nI n := gx.1.1.2.1
    have e4 : fj 4 = nI pl := by rw [w1 4 (by decide) (by decide), h4]
    have e6 : fj 6 = nI (enc (V 3) n) := by rw [w1 6 (by decide) (by decide), h6]
    have e13 : aj 13 = a 13 := w2 13 (by decide) (by decide)
    have ecv : cov V n fj = cov V n f := by
      funext w
      unfold cov
      rw [w1 5 (by decide) (by decide), w1 8 (by decide) (by decide), w1 9 (by decide) (by decide), w1 7 (by decide) (by decide), w1 4 (by decide) (by decide), w1 0 (by decide) (by decide), w1 2 (by decide) (by decide), w1 3 (by decide) (by decide)]
    refine ⟨_, ?_, fj, aj, rfl, w1, w2⟩
    have inner : N_X11_digest_155 fj g aj (hL (hQ V hd n n) pg pl) 0 = some (hD V hd n pl pg f, fj, g, aj) := by
      unfold N_X11_digest_155
      refine lp_all (fun w => (hC (hL (hQ V hd n n) pg pl) (cov V n f) w, nI w, fj, g, aj)) 10 _ _ rfl ?_ ?_ (by omega)
      · intro w hw
        unfold B_X11_digest_155
        dsimp only
        rw [if_neg (nle10 hw), cntX_eq gx.1 e6 hR hw, ecv, nI_1]
        rfl
      · unfold B_X11_digest_155
        dsimp only
        rw [if_pos (show (10 : Int32) ≤ nI 10 by decide)]
        rfl
    have mid : N_X11_digest_117 fj g aj (hQ V hd n n) 0 = some (hD V hd n pl pg f, fj, g, aj) := by
      unfold N_X11_digest_117
      refine lp_all (fun i => (hL (hQ V hd n n) pg i, nI i, fj, g, aj)) pl _ _ rfl ?_ ?_ (by omega)
      · intro i hi
        unfold B_X11_digest_117
        dsimp only
        rw [if_neg (by rw [e4]; exact nlt' hi (by omega)), at_in (show i < 21 by omega) (by omega), e13, hP i hi, nI_1]
        rfl
      · unfold B_X11_digest_117
        dsimp only
        rw [if_pos (by rw [e4]; exact nI_le (Nat.le_refl _) (by omega)), inner]
        rfl
    unfold B_X11_digest_6
    dsimp only
    rw [if_pos (by rw [e5]; exact nI_le (Nat.le_refl _) (by omega)), mid]
    rfl
theorem updL_s (g : Nat → Int64) (i : Nat) (v : Int64) : vp_updL g i v i = v := by unfold vp_updL; rw [if_pos rfl]
theorem mix_eq (f : Nat → Int32) (g : Nat → Int64) (a : Nat → Nat → Int32) (x : Int32) : F_X12_mix f g a x.toInt64 = some (f, vp_updL g 30 (hx (g 30) x), a) := rfl
theorem dgM_eq {V : Nat → Nat → Nat} {hd n pl : Nat} {pg : Nat → Nat} {f f' : Nat → Int32} {g' : Nat → Int64} {a' : Nat → Nat → Int32} (h : GM n hd V f' a') (hpl : pl ≤ 21) (h4 : f' 14 = nI pl) (hP : ∀ i, i < pl → a' 15 i = nI (pg i)) (e5 : f 5 = f' 1) (e8 : f 8 = f' 6) (e9 : f 9 = f' 7) (e7 : f 7 = f' 8) (e4 : f 4 = f' 14) (e0 : f 0 = f' 0) (e2 : f 2 = f' 12) (e3 : f 3 = f' 13) : ∃ g2, F_X12_digest f' g' a' = some (hD V hd n pl pg f, f', g2, a') := by
  have hn := h.1.1.1
  have h1 := h.1.1.2.1
  have inner : ∀ g0 : Nat → Int64, g0 30 = hL (hQ V hd n n) pg pl → ∃ r, N_X12_digest_109 f' g0 a' 0 = some r ∧ ∃ g2, r = (hD V hd n pl pg f, f', g2, a') := by
    intro g0 hg0
    unfold N_X12_digest_109
    refine lp_inv (b := fun q109 : (Int32 × ST) => B_X12_digest_109 q109.2.1 q109.2.2.1 q109.2.2.2 q109.1) (fun w s => ∃ gj, s = (nI w, f', gj, a') ∧ gj 30 = hC (hL (hQ V hd n n) pg pl) (cov V n f) w) (fun r => ∃ g2, r = (hD V hd n pl pg f, f', g2, a')) 10 ?_ ?_ (by omega) (0, f', g0, a') ⟨g0, rfl, hg0⟩
    · rintro w hw s ⟨gj, rfl, q⟩
      refine ⟨(nI (w + 1), f', vp_updL gj 30 (hx (gj 30) (cov V n f w)), a'), ?_, _, rfl, by rw [updL_s, q]; rfl⟩
      unfold B_X12_digest_109
      dsimp only
      rw [if_neg (nle10 hw), cntM_eq h.1 e5 e8 e9 e7 e4 e0 e2 e3 hw, nI_1]
      rfl
    · rintro s ⟨gj, rfl, q⟩
      refine ⟨(gj 30, f', gj, a'), ?_, gj, by rw [q]; rfl⟩
      unfold B_X12_digest_109
      dsimp only
      rw [if_pos (show (10 : Int32) ≤ nI 10 by decide)]
      rfl
  have mid : ∀ g0 : Nat → Int64, g0 30 = hQ V hd n n → ∃ r, N_X12_digest_82 f' g0 a' 0 = some r ∧ ∃ g2, r = (hD V hd n pl pg f, f', g2, a') := by
    intro g0 hg0
    unfold N_X12_digest_82
    refine lp_inv (b := fun q82 : (Int32 × ST) => B_X12_digest_82 q82.2.1 q82.2.2.1 q82.2.2.2 q82.1) (fun i s => ∃ gj, s = (nI i, f', gj, a') ∧ gj 30 = hL (hQ V hd n n) pg i) (fun r => ∃ g2, r = (hD V hd n pl pg f, f', g2, a')) pl ?_ ?_ (by omega) (0, f', g0, a') ⟨g0, rfl, hg0⟩
    · rintro i hi s ⟨gj, rfl, q⟩
      refine ⟨(nI (i + 1), f', vp_updL gj 30 (hx (gj 30) (nI (pg i))), a'), ?_, _, rfl, by rw [updL_s, q]; rfl⟩
      unfold B_X12_digest_82
      dsimp only
      rw [if_neg (by rw [h4]; exact nlt' hi (by omega)), gd_t (inB_nI (show i < 21 by omega) (by omega)), nI_clamp (by omega), hP i hi, nI_1]
      rfl
    · rintro s ⟨gj, rfl, q⟩
      obtain ⟨r, r1, r2⟩ := inner gj q
      refine ⟨r, ?_, r2⟩
      unfold B_X12_digest_82
      dsimp only
      rw [if_pos (by rw [h4]; exact nI_le (Nat.le_refl _) (by omega)), r1]
      rfl
  have outer : ∃ r, F_X12_digest f' g' a' = some r ∧ ∃ g2, r = (hD V hd n pl pg f, f', g2, a') := by
    unfold F_X12_digest N_X12_digest_9
    refine lp_inv (b := fun q9 : (Int32 × ST) => B_X12_digest_9 q9.2.1 q9.2.2.1 q9.2.2.2 q9.1) (fun j s => ∃ gj, s = (nI j, f', gj, a') ∧ gj 30 = hQ V hd n j) (fun r => ∃ g2, r = (hD V hd n pl pg f, f', g2, a')) n ?_ ?_ (by omega) (0, f', vp_updL g' 30 983, a') ⟨_, rfl, by rw [updL_s]; rfl⟩
    · rintro j hj s ⟨gj, rfl, q⟩
      have hin : ∃ r, N_X12_digest_19 f' gj a' (nI j) 0 = some r ∧ ∃ g2, r = .inl (nI (j + 1), f', g2, a') ∧ g2 30 = hQ V hd n (j + 1) := by
        unfold N_X12_digest_19
        refine lp_inv (b := fun q19 : (Int32 × ST) => B_X12_digest_19 q19.2.1 q19.2.2.1 q19.2.2.2 (nI j) q19.1) (fun w s => ∃ gk, s = (nI w, f', gk, a') ∧ gk 30 = hA V n j (hQ V hd n j) w) (fun r => ∃ g2, r = .inl (nI (j + 1), f', g2, a') ∧ g2 30 = hQ V hd n (j + 1)) 9 ?_ ?_ (by omega) (0, f', gj, a') ⟨gj, rfl, q⟩
        · rintro w hw s ⟨gk, rfl, qk⟩
          refine ⟨(nI (w + 1), f', vp_updL gk 30 (hx (gk 30) (abv V n j w)), a'), ?_, _, rfl, by rw [updL_s, qk]; rfl⟩
          unfold B_X12_digest_19
          dsimp only
          rw [if_neg (nle9 hw), one_eq h.1 hj hw, nI_1]
          rfl
        · rintro s ⟨gk, rfl, qk⟩
          refine ⟨_, ?_, vp_updL (vp_updL (vp_updL gk 30 (hx (gk 30) (nI (cnt (AA V hd n j) (n * n))))) 30 (hx (hx (gk 30) (nI (cnt (AA V hd n j) (n * n)))) (ls (AA V hd n j) n (n * n) 0))) 30 (hx (hx (hx (gk 30) (nI (cnt (AA V hd n j) (n * n)))) (ls (AA V hd n j) n (n * n) 0)) (if cnt (AA V hd n j) (n * n) = 0 then -1 else bsr (bs V hd n j (2 ^ n)))), rfl, by rw [updL_s, qk]; rfl⟩
          unfold B_X12_digest_19
          dsimp only
          rw [if_pos (show (9 : Int32) ≤ nI 9 by decide)]
          simp only [hnM_eq h hj, inv_eq h hj, Option.bind_some, mix_eq, updL_s, nI_1]
          rfl
      obtain ⟨r, r1, g2, rfl, r2⟩ := hin
      refine ⟨_, ?_, g2, rfl, r2⟩
      unfold B_X12_digest_9
      dsimp only
      rw [if_neg (by rw [h1]; exact nlt' hj (by omega)), r1]
    · rintro s ⟨gj, rfl, q⟩
      obtain ⟨r, r1, r2⟩ := mid gj q
      refine ⟨r, ?_, r2⟩
      unfold B_X12_digest_9
      dsimp only
      rw [if_pos (by rw [h1]; exact nI_le (Nat.le_refl _) (by omega)), r1]
      rfl
  obtain ⟨r, r1, g2, rfl⟩ := outer
  exact ⟨g2, r1⟩
theorem s_digest : st_digest Rel := by
  intro k hk f g a f' g' a' h
  obtain ⟨n, hd, tw, mv, dy, pl, V, pg, hT, hX, hM, hB, hC, hG, hK⟩ := h
  have gx : GX n hd V f a := Rel_gx (f' := f') (a' := a') hT hX hB
  have gm : GM n hd V f' a' := Rel_gm (f := f) (a := a) hT hM hB
  have hR : ∀ j, j < n → V 3 j < 4 := fun j hj => (hB.2.1 j hj).2.2.2
  obtain ⟨f2, a2, w1, hf, ha⟩ := dgX_eq (g := g) gx hX.2.1 hR hG.1 hG.2.1 (fun i hi => (hG.2.2.2 i hi).1)
  obtain ⟨c1, c2, c3, c4, c5, c6, c7, c8, c9, c10, c11⟩ := hC
  have t5 : f 5 = nI n := hT.2.1
  have t1 : f' 1 = nI n := hT.2.2.1
  have x7 : f 7 = nI hd := hX.2.2.1
  have m8 : f' 8 = nI hd := hM.2.1
  have g4 : f 4 = nI pl := hG.2.1
  have g14 : f' 14 = nI pl := hG.2.2.1
  have c2 : f 0 = nI tw := c2
  have c3 : f' 0 = nI tw := c3
  have c5 : f 2 = nI mv := c5
  have c6 : f' 12 = nI mv := c6
  have c8 : f 3 = nI dy := c8
  have c9 : f' 13 = nI dy := c9
  obtain ⟨g2, v1⟩ := dgM_eq (f := f) (g' := g') gm hG.1 g14 (fun i hi => (hG.2.2.2 i hi).2.1) (t5.trans t1.symm) c10 c11 (x7.trans m8.symm) (g4.trans g14.symm) (c2.trans c3.symm) (c5.trans c6.symm) (c8.trans c9.symm)
  refine ⟨_, _, _, w1, v1, n, hd, tw, mv, dy, pl, V, pg, ?_, ?_, hM, hB, ⟨by omega, ?_, c3, c4, ?_, c6, c7, ?_, c9, ?_, ?_⟩, ?_, ⟨hK.1, ?_⟩⟩
  · show RT n (f2 5) (f' 1) (a2 31) (a' 2) V
    rw [hf 5 (by decide) (by decide), ha 31 (by decide) (by decide)]; exact hT
  · show PX n hd V (a2 14) (a2 15) (a2 16) (f2 6) (f2 7) (a2 17) (a2 18) (a2 19)
    rw [hf 6 (by decide) (by decide), hf 7 (by decide) (by decide), ha 14 (by decide) (by decide), ha 15 (by decide) (by decide), ha 16 (by decide) (by decide), ha 17 (by decide) (by decide), ha 18 (by decide) (by decide), ha 19 (by decide) (by decide)]; exact hX
  · show f2 0 = nI tw
    rw [hf 0 (by decide) (by decide), c2]
  · show f2 2 = nI mv
    rw [hf 2 (by decide) (by decide), c5]
  · show f2 3 = nI dy
    rw [hf 3 (by decide) (by decide), c8]
  · show f2 8 = f' 6
    rw [hf 8 (by decide) (by decide)]; exact c10
  · show f2 9 = f' 7
    rw [hf 9 (by decide) (by decide)]; exact c11
  · show RG pl (f2 4) (f' 14) (a2 13) (a' 15) pg
    rw [hf 4 (by decide) (by decide), ha 13 (by decide) (by decide)]; exact hG
  · have hK2 := hK.2
    show (f2 1 = 0 ∧ f' 19 = 0) ∨ ∃ kt, 1 ≤ kt ∧ kt ≤ tw ∧ f2 1 = nI kt ∧ f' 19 = 1 ∧ f' 20 = nI kt ∧ (kt = tw → ∃ (hk : Nat) (VK : Nat → Nat → Nat), PX n hk VK (a2 20) (a2 21) (a2 22) (f2 10) (f2 11) (a2 23) (a2 24) (a2 25) ∧ PM n hk VK (a' 24) (a' 25) (a' 26) (f' 23) (a' 27) (a' 28) (a' 29) ∧ PB n hk VK ∧ f2 12 = f' 21 ∧ f2 13 = f' 22)
    rw [hf 1 (by decide) (by decide), hf 10 (by decide) (by decide), hf 11 (by decide) (by decide), hf 12 (by decide) (by decide), hf 13 (by decide) (by decide), ha 20 (by decide) (by decide), ha 21 (by decide) (by decide), ha 22 (by decide) (by decide), ha 23 (by decide) (by decide), ha 24 (by decide) (by decide), ha 25 (by decide) (by decide)]
    exact hK2
