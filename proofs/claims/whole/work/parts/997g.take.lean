/-! a new yard -/
section
variable {b : Bool}
theorem woods_m : ∀ (e k mm : Nat) (H : zM), k + e = 12 → e < mm → ∃ H', f_X10_take_l42 mm (mk H b) 205 (ii (k : Int)) = f_X10_take_l71 ps_fu (mk H' b) 205 (0 : Int32) ∧ (∀ j, k ≤ j → j < 12 → H' 208 j = H 208 (12 + j)) ∧ (∀ c i, ¬ (c = 208 ∧ k ≤ i ∧ i < 12) → H' c i = H c i) := by
  intro e
  induction e with
  | zero =>
    intro k mm H he hmm
    obtain ⟨m', rfl⟩ : ∃ m', mm = m' + 1 := ⟨mm - 1, by omega⟩
    refine ⟨H, ?_, fun j a c => by omega, fun _ _ _ => rfl⟩
    show f_X10_take_w42 (f_X10_take_l42 m') (mk H b) 205 (ii (k : Int)) = _
    unfold f_X10_take_w42
    rw [if_pos (by rw [show (12 : Int32) = ii 12 by decide, ii_le (by omega) (by omega) (by omega) (by omega)]; omega)]
  | succ e ih =>
    intro k mm H he hmm
    obtain ⟨m', rfl⟩ : ∃ m', mm = m' + 1 := ⟨mm - 1, by omega⟩
    obtain ⟨H', f1, a1, a2⟩ := ih (k + 1) m' (ps_uI H 208 k (H 208 (12 + k))) (by omega) (by omega)
    refine ⟨H', ?_, fun j q1 q2 => ?_, fun c i q => by rw [a2 c i (by omega), uI_o (by omega)]⟩
    · show f_X10_take_w42 (f_X10_take_l42 m') (mk H b) 205 (ii (k : Int)) = _
      unfold f_X10_take_w42
      rw [if_neg (by rw [show (12 : Int32) = ii 12 by decide, ii_le (by omega) (by omega) (by omega) (by omega)]; omega), gR_mk zk_205 (zr_205_14 b), gR_mk zk_205 (zr_205_14 b), show (12 : Int32) = ii 12 by decide, ii_add, aI_mk zk_208 (by omega) (by rw [zl_208]; omega) (by rw [zl_208]; omega), show ((12 : Int) + (k : Int)).toNat = 12 + k by omega, xI_mk zk_208 (by omega) (by rw [zl_208]; omega) (by rw [zl_208]; omega), Int.toNat_natCast, suc_ii, v_mk, f1]
    · by_cases w : j = k
      · subst w
        rw [a2 208 j (by omega), uI_s]
      · rw [a1 j (by omega) q2, uI_o (by omega)]
/-- the tail of a new yard -/
noncomputable def tkt (H : zM) (b : Bool) : Option ps_M := f_X10_take_l71 1 (mk H b) 205 (4 : Int32)
theorem folk_m : ∀ (e k mm : Nat) (H : zM), k + e = 4 → e < mm → ∃ H', f_X10_take_l71 mm (mk H b) 205 (ii (k : Int)) = tkt H' b ∧ (∀ p, k ≤ p → p < 4 → H' 209 p = H 209 (4 + p) ∧ H' 210 p = H 210 (4 + p) ∧ H' 211 p = H 211 (4 + p) ∧ H' 212 p = H 212 (4 + p) ∧ H' 213 p = H 213 (4 + p) ∧ H' 206 p = H 209 (4 + p) ∧ H' 206 (12 + p) = H 212 (4 + p)) ∧ (∀ c i, ¬ ((209 ≤ c ∧ c ≤ 213 ∧ k ≤ i ∧ i < 4) ∨ (c = 206 ∧ ((k ≤ i ∧ i < 4) ∨ (12 + k ≤ i ∧ i < 16)))) → H' c i = H c i) := by
  intro e
  induction e with
  | zero =>
    intro k mm H he hmm
    obtain ⟨m', rfl⟩ : ∃ m', mm = m' + 1 := ⟨mm - 1, by omega⟩
    obtain rfl : k = 4 := by omega
    refine ⟨H, ?_, fun j a c => by omega, fun _ _ _ => rfl⟩
    unfold tkt
    show f_X10_take_w71 (f_X10_take_l71 m') (mk H b) 205 (ii ((4 : Nat) : Int)) = f_X10_take_w71 (f_X10_take_l71 0) (mk H b) 205 (4 : Int32)
    unfold f_X10_take_w71
    rw [if_pos (by decide), if_pos (by decide)]
  | succ e ih =>
    intro k mm H he hmm
    obtain ⟨m', rfl⟩ : ∃ m', mm = m' + 1 := ⟨mm - 1, by omega⟩
    obtain ⟨H', f1, a1, a2⟩ := ih (k + 1) m' (ps_uI (ps_uI (ps_uI (ps_uI (ps_uI (ps_uI (ps_uI H 209 k (H 209 (4 + k))) 210 k (H 210 (4 + k))) 211 k (H 211 (4 + k))) 212 k (H 212 (4 + k))) 213 k (H 213 (4 + k))) 206 k (H 209 (4 + k))) 206 (12 + k) (H 212 (4 + k))) (by omega) (by omega)
    have o : ∀ c i, ¬ ((209 ≤ c ∧ c ≤ 213 ∧ i = k) ∨ (c = 206 ∧ (i = k ∨ i = 12 + k))) → ps_uI (ps_uI (ps_uI (ps_uI (ps_uI (ps_uI (ps_uI H 209 k (H 209 (4 + k))) 210 k (H 210 (4 + k))) 211 k (H 211 (4 + k))) 212 k (H 212 (4 + k))) 213 k (H 213 (4 + k))) 206 k (H 209 (4 + k))) 206 (12 + k) (H 212 (4 + k)) c i = H c i := fun c i q => by
      rw [uI_o (by omega), uI_o (by omega), uI_o (by omega), uI_o (by omega), uI_o (by omega), uI_o (by omega), uI_o (by omega)]
    refine ⟨H', ?_, fun p q1 q2 => ?_, fun c i q => by rw [a2 c i (by omega), o c i (by omega)]⟩
    · show f_X10_take_w71 (f_X10_take_l71 m') (mk H b) 205 (ii (k : Int)) = _
      have e4 : ((4 : Int) + (k : Int)).toNat = 4 + k := by omega
      have e12 : ((12 : Int) + (k : Int)).toNat = 12 + k := by omega
      unfold f_X10_take_w71
      rw [if_neg (by rw [show (4 : Int32) = ii 4 by decide, ii_le (by omega) (by omega) (by omega) (by omega)]; omega), gR_mk zk_205 (zr_205_15 b), gR_mk zk_205 (zr_205_15 b), show (4 : Int32) = ii 4 by decide, show (12 : Int32) = ii 12 by decide, ii_add, aI_mk zk_209 (by omega) (by rw [zl_209]; omega) (by rw [zl_209]; omega), e4, xI_mk zk_209 (by omega) (by rw [zl_209]; omega) (by rw [zl_209]; omega), Int.toNat_natCast, gR_mk zk_205 (zr_205_16 b), gR_mk zk_205 (zr_205_16 b), aI_mk zk_210 (by omega) (by rw [zl_210]; omega) (by rw [zl_210]; omega), e4, uI_o (by omega), xI_mk zk_210 (by omega) (by rw [zl_210]; omega) (by rw [zl_210]; omega), Int.toNat_natCast, gR_mk zk_205 (zr_205_17 b), gR_mk zk_205 (zr_205_17 b), aI_mk zk_211 (by omega) (by rw [zl_211]; omega) (by rw [zl_211]; omega), e4, uI_o (by omega), uI_o (by omega), xI_mk zk_211 (by omega) (by rw [zl_211]; omega) (by rw [zl_211]; omega), Int.toNat_natCast, gR_mk zk_205 (zr_205_18 b), gR_mk zk_205 (zr_205_18 b), aI_mk zk_212 (by omega) (by rw [zl_212]; omega) (by rw [zl_212]; omega), e4, uI_o (by omega), uI_o (by omega), uI_o (by omega), xI_mk zk_212 (by omega) (by rw [zl_212]; omega) (by rw [zl_212]; omega), Int.toNat_natCast, gR_mk zk_205 (zr_205_19 b), gR_mk zk_205 (zr_205_19 b), aI_mk zk_213 (by omega) (by rw [zl_213]; omega) (by rw [zl_213]; omega), e4, uI_o (by omega), uI_o (by omega), uI_o (by omega), uI_o (by omega), xI_mk zk_213 (by omega) (by rw [zl_213]; omega) (by rw [zl_213]; omega), Int.toNat_natCast, gW, gR_mk zk_205 (zr_205_15 b), aI_mk zk_209 (by omega) (by rw [zl_209]; omega) (by rw [zl_209]; omega), Int.toNat_natCast, uI_o (by omega), uI_o (by omega), uI_o (by omega), uI_o (by omega), uI_s, xI_mk zk_206 (by omega) (by rw [zl_206]; omega) (by rw [zl_206]; omega), Int.toNat_natCast, gW, gR_mk zk_205 (zr_205_18 b), aI_mk zk_212 (by omega) (by rw [zl_212]; omega) (by rw [zl_212]; omega), Int.toNat_natCast, uI_o (by omega), uI_o (by omega), uI_s, ii_add, xI_mk zk_206 (by omega) (by rw [zl_206]; omega) (by rw [zl_206]; omega), e12, suc_ii, v_mk, f1]
    · by_cases w : p = k
      · subst w
        rw [a2 209 p (by omega), a2 210 p (by omega), a2 211 p (by omega), a2 212 p (by omega), a2 213 p (by omega), a2 206 p (by omega), a2 206 (12 + p) (by omega)]
        refine ⟨?_, ?_, ?_, ?_, ?_, ?_, ?_⟩
        · rw [uI_o (by omega), uI_o (by omega), uI_o (by omega), uI_o (by omega), uI_o (by omega), uI_o (by omega), uI_s]
        · rw [uI_o (by omega), uI_o (by omega), uI_o (by omega), uI_o (by omega), uI_o (by omega), uI_s]
        · rw [uI_o (by omega), uI_o (by omega), uI_o (by omega), uI_o (by omega), uI_s]
        · rw [uI_o (by omega), uI_o (by omega), uI_o (by omega), uI_s]
        · rw [uI_o (by omega), uI_o (by omega), uI_s]
        · rw [uI_o (by omega), uI_s]
        · rw [uI_s]
      · obtain ⟨c1, c2, c3, c4, c5, c6, c7⟩ := a1 p (by omega) q2
        rw [c1, c2, c3, c4, c5, c6, c7, o _ _ (by omega), o _ _ (by omega), o _ _ (by omega), o _ _ (by omega), o _ _ (by omega)]
        exact ⟨rfl, rfl, rfl, rfl, rfl, rfl, rfl⟩
theorem tail_m {H : zM} {T : Int} (h9 : H 205 9 = ii T) : tkt H b = some (mk (ps_uI (ps_uI (ps_uI (ps_uI (ps_uI (putM (ps_uI H 206 24 (ii T)) 0 (nlog (mrow (ps_uI H 206 24 (ii T)) 0) (-1) (-1))) 205 32 0) 205 34 0) 205 26 0) 207 0 0) 207 1 0) b) := by
  unfold tkt
  show f_X10_take_w71 (f_X10_take_l71 0) (mk H b) 205 (4 : Int32) = _
  have hb := mbegin_mk (h := ps_uI H 206 24 (ii T)) (b := b) (x := 0) (r := mrow (ps_uI H 206 24 (ii T)) 0) (p := -1) (q := -1) (by omega)
  rw [putM_mrow] at hb
  unfold f_X10_take_w71
  rw [if_pos (by decide), gW, gI_mk zk_205, h9, show (24 : Int32) = ii 24 by decide, xI_mk zk_206 (by omega) (by rw [zl_206]; omega) (by rw [zl_206]; omega), show (24 : Int).toNat = 24 from rfl, ck_mk zk_205, show f_X10_begin (mk (ps_uI H 206 24 (ii T)) b) 205 (0 : Int32) (-1 : Int32) (-1 : Int32) = _ from hb, b1_mk, pI_mk zk_205, pI_mk zk_205, pI_mk zk_205, gR_mk zk_205 (zr_205_1 b)]
  show ps_xZ _ 207 (ii 0) (0 : Int32) _ = _
  rw [xZ_mk zk_207 (by omega) (by rw [zl_207]; omega) (by rw [zl_207]; omega) (Or.inl rfl), gR_mk zk_205 (zr_205_1 b)]
  show ps_xZ _ 207 (ii 1) (0 : Int32) _ = _
  rw [xZ_mk zk_207 (by omega) (by rw [zl_207]; omega) (by rw [zl_207]; omega) (Or.inl rfl)]
  rfl
/-- the yard that was read is the other side's yard -/
theorem take_m {H : zM} {y : yS} (hD : Dm H y) (hY : YK y) : ∃ (H' : zM) (m : Nat → Int), f_X10_take (mk H b) 205 = some (mk H' b) ∧ Ym H' y ∧ mrow H' 0 = mrow (putM H 0 m) 0 ∧ (m 16 = -1 ∧ m 17 = -1 ∧ m 18 = -1 ∧ m 19 = 0 ∧ m 20 = 0 ∧ m 21 = 0 ∧ m 22 = 0 ∧ m 23 = 0 ∧ m 24 = y 0 2) ∧ (∀ p : Nat, (p : Int) < y 0 1 → m p = y 2 p ∧ m (4 + p) = 0 ∧ m (8 + p) = 0 ∧ m (12 + p) = y 5 p) ∧ (H' 205 32 = ii 0 ∧ H' 205 34 = ii 0 ∧ H' 205 26 = ii 0 ∧ H' 207 0 = ii 0 ∧ H' 207 1 = ii 0) ∧ (∀ c k, ¬ ((c = 205 ∧ (k = 2 ∨ k = 3 ∨ k = 4 ∨ k = 5 ∨ k = 6 ∨ k = 26 ∨ k = 32 ∨ k = 34)) ∨ (c = 206 ∧ k < 25) ∨ (207 ≤ c ∧ c ≤ 213)) → H' c k = H c k) := by
  obtain ⟨⟨⟨a0, a1, a2, a3, a4, a5⟩, h1, h2⟩, -⟩ := hD
  obtain ⟨⟨b0, b1, -⟩, ⟨b2, b3⟩, -, b5⟩ := id hY
  generalize hH0 : ps_uI (ps_uI (ps_uI (ps_uI (ps_uI H 205 2 (ii (y 0 0))) 205 3 (ii (y 0 1))) 205 4 (ii (y 0 3))) 205 5 (ii (y 0 4))) 205 6 (ii (y 0 5)) = H0
  have o0 : ∀ c k, ¬ (c = 205 ∧ 2 ≤ k ∧ k ≤ 6) → H0 c k = H c k := fun c k q => by
    rw [← hH0, uI_o (by omega), uI_o (by omega), uI_o (by omega), uI_o (by omega), uI_o (by omega)]
  obtain ⟨H1, f1, c1, o1⟩ := woods_m (b := b) 12 0 ps_fu H0 (by omega) (by unfold ps_fu; omega)
  obtain ⟨H2, f2, c2, o2⟩ := folk_m (b := b) 4 0 ps_fu H1 (by omega) (by unfold ps_fu; omega)
  have h9 : H2 205 9 = ii (y 0 2) := by rw [o2 205 9 (by omega), o1 205 9 (by omega), o0 205 9 (by omega), a2]
  have f3 := tail_m (b := b) h9
  have f0 : f_X10_take (mk H b) 205 = f_X10_take_l42 ps_fu (mk H0 b) 205 (0 : Int32) := by
    unfold f_X10_take
    rw [gI_mk zk_205, a0, pI_mk zk_205, gI_mk zk_205, uI_o (by omega), a1, pI_mk zk_205, gI_mk zk_205, uI_o (by omega), uI_o (by omega), a3, pI_mk zk_205, gI_mk zk_205, uI_o (by omega), uI_o (by omega), uI_o (by omega), a4, pI_mk zk_205, gI_mk zk_205, uI_o (by omega), uI_o (by omega), uI_o (by omega), uI_o (by omega), a5, pI_mk zk_205, hH0]
  obtain ⟨m, hm⟩ : ∃ m, nlog (mrow (ps_uI H2 206 24 (ii (y 0 2))) 0) (-1) (-1) = m := ⟨_, rfl⟩
  rw [hm] at f3
  generalize hH3 : ps_uI (ps_uI (ps_uI (ps_uI (ps_uI (putM (ps_uI H2 206 24 (ii (y 0 2))) 0 m) 205 32 0) 205 34 0) 205 26 0) 207 0 0) 207 1 0 = H3 at f3
  have o3 : ∀ c k, ¬ (c = 205 ∧ (k = 26 ∨ k = 32 ∨ k = 34)) → ¬ (c = 206 ∧ k < 25) → ¬ (c = 207 ∧ k < 2) → H3 c k = H2 c k := fun c k q1 q2 q3 => by
    rw [← hH3, uI_o (by omega), uI_o (by omega), uI_o (by omega), uI_o (by omega), uI_o (by omega), putM_o _ _ (by omega), uI_o (by omega)]
  refine ⟨H3, m, f0.trans (f1.trans (f2.trans f3)), ?_, ?_, ?_, fun p hp => ?_, ?_, fun c k q => ?_⟩
  · have s : ∀ k, 2 ≤ k → k ≤ 6 → H3 205 k = H0 205 k := fun k q1 q2 => by rw [o3 205 k (by omega) (by omega) (by omega), o2 205 k (by omega), o1 205 k (by omega)]
    refine ⟨?_, ?_, ?_, ?_, ?_, fun j hj => ?_, fun p hp => ?_⟩
    · rw [s 2 (by omega) (by omega), ← hH0, uI_o (by omega), uI_o (by omega), uI_o (by omega), uI_o (by omega), uI_s]
    · rw [s 3 (by omega) (by omega), ← hH0, uI_o (by omega), uI_o (by omega), uI_o (by omega), uI_s]
    · rw [s 4 (by omega) (by omega), ← hH0, uI_o (by omega), uI_o (by omega), uI_s]
    · rw [s 5 (by omega) (by omega), ← hH0, uI_o (by omega), uI_s]
    · rw [s 6 (by omega) (by omega), ← hH0, uI_s]
    · rw [o3 208 j (by omega) (by omega) (by omega), o2 208 j (by omega), c1 j (by omega) (by omega), o0 208 _ (by omega)]
      exact h1 j hj
    · obtain ⟨e1, e2, e3, e4, e5, e6, e7⟩ := c2 p (by omega) (by omega)
      obtain ⟨g1, g2, g3, g4, g5⟩ := h2 p hp
      rw [o3 209 p (by omega) (by omega) (by omega), o3 210 p (by omega) (by omega) (by omega), o3 211 p (by omega) (by omega) (by omega), o3 213 p (by omega) (by omega) (by omega), e1, e2, e3, e5, o1 209 _ (by omega), o1 210 _ (by omega), o1 211 _ (by omega), o1 213 _ (by omega), o0 209 _ (by omega), o0 210 _ (by omega), o0 211 _ (by omega), o0 213 _ (by omega)]
      exact ⟨g1, g2, g3, g5⟩
  · funext j
    by_cases q : j < 25
    · rw [mrow_put _ _ _ j q, ← mrow_put (ps_uI H2 206 24 (ii (y 0 2))) 0 m j q]
      exact mrow_c (by rw [← hH3, uI_o (by omega), uI_o (by omega), uI_o (by omega), uI_o (by omega), uI_o (by omega)])
    · refine mrow_c ?_
      rw [putM_o _ _ (by omega), o3 206 _ (by omega) (by omega) (by omega), o2 206 _ (by omega), o1 206 _ (by omega), o0 206 _ (by omega)]
  · rw [← hm]
    refine ⟨rfl, rfl, rfl, rfl, rfl, rfl, rfl, rfl, ?_⟩
    show (ps_uI H2 206 24 (ii (y 0 2)) 206 (0 + 24)).toInt = _
    rw [uI_s, toInt_ii (by omega) (by omega)]
  · obtain ⟨e1, e2, e3, e4, e5, e6, e7⟩ := c2 p (by omega) (by omega)
    obtain ⟨g1, g2, g3, g4, g5⟩ := h2 p hp
    have hp4 : p < 4 := by omega
    have hb2 := (hY.1.2.2.2.2.2.2 p hp).1
    have hb5 := b5 p hp
    rw [← hm]
    unfold nlog
    refine ⟨?_, ?_, ?_, ?_⟩
    · simp only [show ¬ p = 16 by omega, show ¬ p = 17 by omega, show ¬ p = 18 by omega, show ¬ p = 19 by omega, show ¬ p = 20 by omega, show ¬ p = 21 by omega, show ¬ p = 22 by omega, show ¬ p = 23 by omega, show ¬ (4 ≤ p ∧ p < 12) by omega, if_false]
      show (ps_uI H2 206 24 (ii (y 0 2)) 206 (0 + p)).toInt = _
      rw [uI_o (by omega), Nat.zero_add, e6, o1 209 _ (by omega), o0 209 _ (by omega), g1, toInt_ii (by omega) (by omega)]
    · simp only [show ¬ 4 + p = 16 by omega, show ¬ 4 + p = 17 by omega, show ¬ 4 + p = 18 by omega, show ¬ 4 + p = 19 by omega, show ¬ 4 + p = 20 by omega, show ¬ 4 + p = 21 by omega, show ¬ 4 + p = 22 by omega, show ¬ 4 + p = 23 by omega, if_false]
      rw [if_pos (by omega)]
    · simp only [show ¬ 8 + p = 16 by omega, show ¬ 8 + p = 17 by omega, show ¬ 8 + p = 18 by omega, show ¬ 8 + p = 19 by omega, show ¬ 8 + p = 20 by omega, show ¬ 8 + p = 21 by omega, show ¬ 8 + p = 22 by omega, show ¬ 8 + p = 23 by omega, if_false]
      rw [if_pos (by omega)]
    · simp only [show ¬ 12 + p = 16 by omega, show ¬ 12 + p = 17 by omega, show ¬ 12 + p = 18 by omega, show ¬ 12 + p = 19 by omega, show ¬ 12 + p = 20 by omega, show ¬ 12 + p = 21 by omega, show ¬ 12 + p = 22 by omega, show ¬ 12 + p = 23 by omega, show ¬ (4 ≤ 12 + p ∧ 12 + p < 12) by omega, if_false]
      show (ps_uI H2 206 24 (ii (y 0 2)) 206 (0 + (12 + p))).toInt = _
      rw [uI_o (by omega), Nat.zero_add, e7, o1 212 _ (by omega), o0 212 _ (by omega), g4, toInt_ii (by omega) (by omega)]
  · rw [← hH3]
    refine ⟨?_, ?_, ?_, ?_, ?_⟩
    · rw [uI_o (by omega), uI_o (by omega), uI_o (by omega), uI_o (by omega), uI_s]; rfl
    · rw [uI_o (by omega), uI_o (by omega), uI_o (by omega), uI_s]; rfl
    · rw [uI_o (by omega), uI_o (by omega), uI_s]; rfl
    · rw [uI_o (by omega), uI_s]; rfl
    · rw [uI_s]; rfl
  · rw [o3 c k (by omega) (by omega) (by omega), o2 c k (by omega), o1 c k (by omega), o0 c k (by omega)]
end
