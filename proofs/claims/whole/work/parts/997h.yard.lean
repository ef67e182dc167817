/-! yard -/
section
variable {b : Bool}
theorem become8_c {H : zM} : ∃ H', f_X8_become (mk H b) 1 11 = some (mk H' b) ∧ (H' 1 0 = H 11 0 ∧ H' 1 1 = H 11 1 ∧ H' 1 2 = H 11 2 ∧ H' 1 3 = H 11 3 ∧ H' 1 4 = H 11 4 ∧ H' 1 5 = H 11 5) ∧ (∀ j, j < 12 → H' 2 j = H 12 j) ∧ (∀ p, p < 4 → H' 3 p = H 13 p ∧ H' 4 p = H 14 p ∧ H' 5 p = H 15 p ∧ H' 6 p = H 16 p ∧ H' 7 p = H 17 p) ∧ ∀ c k, ¬ (1 ≤ c ∧ c ≤ 7) → H' c k = H c k := by
  generalize hH0 : ps_uI (ps_uI (ps_uI (ps_uI (ps_uI (ps_uI H 1 0 (H 11 0)) 1 1 (H 11 1)) 1 2 (H 11 2)) 1 3 (H 11 3)) 1 4 (H 11 4)) 1 5 (H 11 5) = H0
  have o0 : ∀ c k, c ≠ 1 → H0 c k = H c k := fun c k q => by
    rw [← hH0, uI_o (by omega), uI_o (by omega), uI_o (by omega), uI_o (by omega), uI_o (by omega), uI_o (by omega)]
  have oc : ∀ (F : zM) (c1 c2 n c k : Nat), c ≠ c2 → cpy F c1 c2 n c k = F c k := fun F c1 c2 n c k q => by
    unfold cpy
    rw [if_neg (fun a => q a.1)]
  have sc_ : ∀ (F : zM) (c1 c2 n k : Nat), k < n → cpy F c1 c2 n c2 k = F c1 k := fun F c1 c2 n k q => by
    unfold cpy
    rw [if_pos ⟨rfl, q⟩]
  refine ⟨cpy (cpy (cpy (cpy (cpy (cpy H0 12 2 12) 13 3 4) 14 4 4) 15 5 4) 16 6 4) 17 7 4, ?_, ?_, fun j hj => ?_, fun p hp => ⟨?_, ?_, ?_, ?_, ?_⟩, fun c k q => ?_⟩
  · unfold f_X8_become
    rw [gI_mk zk_11, pI_mk zk_1, gI_mk zk_11, uI_o (by omega), pI_mk zk_1, gI_mk zk_11, uI_o (by omega), uI_o (by omega), pI_mk zk_1, gI_mk zk_11, uI_o (by omega), uI_o (by omega), uI_o (by omega), pI_mk zk_1, gI_mk zk_11, uI_o (by omega), uI_o (by omega), uI_o (by omega), uI_o (by omega), pI_mk zk_1, gI_mk zk_11, uI_o (by omega), uI_o (by omega), uI_o (by omega), uI_o (by omega), uI_o (by omega), pI_mk zk_1, hH0]
    rw [gR_mk zk_11 (zr_11_6 b), gR_mk zk_1 (zr_1_6 b), copy_mk (by decide) zk_12 zk_2 zl_12 zl_2 (by omega), b1_mk]
    rw [gR_mk zk_11 (zr_11_7 b), gR_mk zk_1 (zr_1_7 b), copy_mk (by decide) zk_13 zk_3 zl_13 zl_3 (by omega), b1_mk]
    rw [gR_mk zk_11 (zr_11_8 b), gR_mk zk_1 (zr_1_8 b), copy_mk (by decide) zk_14 zk_4 zl_14 zl_4 (by omega), b1_mk]
    rw [gR_mk zk_11 (zr_11_9 b), gR_mk zk_1 (zr_1_9 b), copy_mk (by decide) zk_15 zk_5 zl_15 zl_5 (by omega), b1_mk]
    rw [gR_mk zk_11 (zr_11_10 b), gR_mk zk_1 (zr_1_10 b), copy_mk (by decide) zk_16 zk_6 zl_16 zl_6 (by omega), b1_mk]
    rw [gR_mk zk_11 (zr_11_11 b), gR_mk zk_1 (zr_1_11 b), copy_mk (by decide) zk_17 zk_7 zl_17 zl_7 (by omega), b1_mk]
  · have e : ∀ k, cpy (cpy (cpy (cpy (cpy (cpy H0 12 2 12) 13 3 4) 14 4 4) 15 5 4) 16 6 4) 17 7 4 1 k = H0 1 k := fun k => by
      rw [oc _ _ _ _ _ _ (by decide), oc _ _ _ _ _ _ (by decide), oc _ _ _ _ _ _ (by decide), oc _ _ _ _ _ _ (by decide), oc _ _ _ _ _ _ (by decide), oc _ _ _ _ _ _ (by decide)]
    rw [e, e, e, e, e, e, ← hH0]
    refine ⟨?_, ?_, ?_, ?_, ?_, ?_⟩
    · rw [uI_o (by omega), uI_o (by omega), uI_o (by omega), uI_o (by omega), uI_o (by omega), uI_s]
    · rw [uI_o (by omega), uI_o (by omega), uI_o (by omega), uI_o (by omega), uI_s]
    · rw [uI_o (by omega), uI_o (by omega), uI_o (by omega), uI_s]
    · rw [uI_o (by omega), uI_o (by omega), uI_s]
    · rw [uI_o (by omega), uI_s]
    · rw [uI_s]
  · rw [oc _ _ _ _ _ _ (by decide), oc _ _ _ _ _ _ (by decide), oc _ _ _ _ _ _ (by decide), oc _ _ _ _ _ _ (by decide), oc _ _ _ _ _ _ (by decide), sc_ _ _ _ _ _ hj, o0 _ _ (by decide)]
  · rw [oc _ _ _ _ _ _ (by decide), oc _ _ _ _ _ _ (by decide), oc _ _ _ _ _ _ (by decide), oc _ _ _ _ _ _ (by decide), sc_ _ _ _ _ _ hp, oc _ _ _ _ _ _ (by decide), o0 _ _ (by decide)]
  · rw [oc _ _ _ _ _ _ (by decide), oc _ _ _ _ _ _ (by decide), oc _ _ _ _ _ _ (by decide), sc_ _ _ _ _ _ hp, oc _ _ _ _ _ _ (by decide), oc _ _ _ _ _ _ (by decide), o0 _ _ (by decide)]
  · rw [oc _ _ _ _ _ _ (by decide), oc _ _ _ _ _ _ (by decide), sc_ _ _ _ _ _ hp, oc _ _ _ _ _ _ (by decide), oc _ _ _ _ _ _ (by decide), oc _ _ _ _ _ _ (by decide), o0 _ _ (by decide)]
  · rw [oc _ _ _ _ _ _ (by decide), sc_ _ _ _ _ _ hp, oc _ _ _ _ _ _ (by decide), oc _ _ _ _ _ _ (by decide), oc _ _ _ _ _ _ (by decide), oc _ _ _ _ _ _ (by decide), o0 _ _ (by decide)]
  · rw [sc_ _ _ _ _ _ hp, oc _ _ _ _ _ _ (by decide), oc _ _ _ _ _ _ (by decide), oc _ _ _ _ _ _ (by decide), oc _ _ _ _ _ _ (by decide), oc _ _ _ _ _ _ (by decide), o0 _ _ (by decide)]
  · rw [oc _ _ _ _ _ _ (by omega), oc _ _ _ _ _ _ (by omega), oc _ _ _ _ _ _ (by omega), oc _ _ _ _ _ _ (by omega), oc _ _ _ _ _ _ (by omega), oc _ _ _ _ _ _ (by omega), o0 _ _ (by omega)]
theorem startYard_c {H : zM} {y : yS} (hY : YK y) (h2 : H 1 2 = ii (y 0 2)) (h3 : ∀ p : Nat, (p : Int) < y 0 1 → H 3 p = ii (y 2 p) ∧ H 6 p = ii (y 5 p)) : ∃ r : Nat → Int, f_X7_startYard (mk H b) 18 1 = some (mk (putW H 18 r) b) ∧ (r 16 = -1 ∧ r 17 = -1 ∧ r 18 = -1 ∧ r 19 = 0 ∧ r 20 = 0 ∧ r 21 = 0 ∧ r 22 = 0 ∧ r 23 = 0 ∧ r 24 = y 0 2) ∧ (∀ p : Nat, (p : Int) < y 0 1 → r p = y 2 p ∧ r (4 + p) = 0 ∧ r (8 + p) = 0 ∧ r (12 + p) = y 5 p) := by
  obtain ⟨⟨b0, b1, -⟩, ⟨b2, b3⟩, -, b5⟩ := id hY
  have h0 := startLog_mk (h := H) (b := b) (r := wk H 18) (p := -1) (q := -1) iw_18
  rw [putW_wk] at h0
  refine ⟨rcp (rcp (rs (nlog (wk H 18) (-1) (-1)) 24 (y 0 2)) 0 (fun k => (H 3 k).toInt)) 12 (fun k => (H 6 k).toInt), ?_, ?_, fun p hp => ?_⟩
  · obtain ⟨k0, k1, k2, k3, k4, l1, l2, l3, l4, r9, r10, r11, r12, -⟩ := id iw_18
    unfold f_X7_startYard
    rw [ck_mk k0, show f_X7_startLog (mk H b) 18 (-1 : Int32) (-1 : Int32) = _ from h0, b1_mk, gI_mk zk_1, putW_o _ _ _ (by omega), h2, pI_mk k0, (uI_w H 18 _ _).2.2.2.2.2.2.2.1, gR_mk zk_1 (zr_1_7 b), gR_mk k0 (r9 b), copy_mk (by decide) zk_3 k1 zl_3 l1 (by omega), b1_mk, (cpy_W H 18 _ (by omega)).1, gR_mk zk_1 (zr_1_10 b), gR_mk k0 (r10 b), copy_mk (by decide) zk_6 k2 zl_6 l2 (by omega), b1_mk, (cpy_W H 18 _ (by omega)).2.1]
  · refine ⟨rfl, rfl, rfl, rfl, rfl, rfl, rfl, rfl, rfl⟩
  · obtain ⟨g1, g2⟩ := h3 p hp
    have hb2 := (hY.1.2.2.2.2.2.2 p hp).1
    have hb5 := b5 p hp
    have hp4 : p < 4 := by omega
    unfold rcp rs nlog
    refine ⟨?_, ?_, ?_, ?_⟩
    · rw [if_neg (by omega), if_pos (by omega), show p - 0 = p by omega]
      show (H 3 p).toInt = _
      rw [g1, toInt_ii (by omega) (by omega)]
    · rw [if_neg (by omega), if_neg (by omega), if_neg (by omega), if_neg (by omega), if_neg (by omega), if_neg (by omega), if_neg (by omega), if_neg (by omega), if_neg (by omega), if_neg (by omega), if_neg (by omega), if_pos (by omega)]
    · rw [if_neg (by omega), if_neg (by omega), if_neg (by omega), if_neg (by omega), if_neg (by omega), if_neg (by omega), if_neg (by omega), if_neg (by omega), if_neg (by omega), if_neg (by omega), if_neg (by omega), if_pos (by omega)]
    · rw [if_pos (by omega), show 12 + p - 12 = p by omega]
      show (H 6 p).toInt = _
      rw [g2, toInt_ii (by omega) (by omega)]
end
theorem Ym_lo {h h' : zM} {y : Nat → Nat → Int} (hy : Yk y) (h0 : Ym h y) (hc : ∀ c k, (c = 205 ∧ 2 ≤ k ∧ k ≤ 6) ∨ (c = 208 ∧ k < 12) ∨ (209 ≤ c ∧ c ≤ 213 ∧ k < 4) → h' c k = h c k) : Ym h' y := by
  obtain ⟨y1, y2, -⟩ := hy
  obtain ⟨a1, a2, a3, a4, a5, a6, a7⟩ := h0
  refine ⟨by rw [hc 205 2 (by omega)]; exact a1, by rw [hc 205 3 (by omega)]; exact a2, by rw [hc 205 4 (by omega)]; exact a3, by rw [hc 205 5 (by omega)]; exact a4, by rw [hc 205 6 (by omega)]; exact a5, fun j hj => by rw [hc 208 j (by omega)]; exact a6 j hj, fun p hp => ?_⟩
  rw [hc 209 p (by omega), hc 210 p (by omega), hc 211 p (by omega), hc 213 p (by omega)]
  exact a7 p hp
theorem arm1 : ps_arm1 Inv := by
  rintro k M hk ⟨h, b, y, rfl, hR⟩
  have hy4 := Rel_y4 hR
  obtain ⟨hRY, hN, hS, hseen, hbook, htext, hF, hI0, hI1, hP⟩ := hR
  obtain ⟨n, n0, n1, n2, n3⟩ := htext
  have hTx : Tx (fun j => (h 10 j).toInt) n h := ⟨n0, n1, fun j hj => ⟨(ii_toInt _).symm, (n3 j hj).2⟩⟩
  obtain ⟨t, ht⟩ : ∃ t : Nat → Int, (fun j => (h 10 j).toInt) = t := ⟨_, rfl⟩
  rw [ht] at hTx
  obtain ⟨H1, f1, r1, d1, o1⟩ := readText_c (b := b) hTx
  obtain ⟨X, hX⟩ : ∃ X : rS × yS, run t n 251 sN yN = X := ⟨_, rfl⟩
  rw [hX] at r1 d1
  have hrun := run_Y (t := t) n0 251 sN yN fok_N (fun _ => YK_N)
  rw [hX] at hrun
  obtain ⟨⟨x1, x2, x3, x4, x5⟩, hYK⟩ := hrun
  have hTm : ∀ H : zM, (∀ c k, (c = 205 ∧ k = 21) ∨ c = 214 → H c k = h c k) → Tm t n H := fun H hc => ⟨n0, by rw [hc 205 21 (by omega)]; exact n2, fun j hj => by
    rw [hc 214 j (by omega), (n3 j hj).1]
    have := hTx.2.2 j hj
    rw [← ht]
    exact ⟨(ii_toInt _).symm, (n3 j hj).2⟩⟩
  generalize hHA : ps_uI H1 9 1 (ii 0) = HA at f1
  have oA : ∀ c k, ¬ (c = 8 ∧ 2 ≤ k) → ¬ (11 ≤ c ∧ c ≤ 17) → ¬ (c = 9 ∧ k = 1) → HA c k = h c k := fun c k q1 q2 q3 => by rw [← hHA, uI_o q3, o1 c k (by omega)]
  have A82 : HA 8 2 = ii X.1.2.1 := by rw [← hHA, uI_o (by omega)]; exact r1.2.1
  have A83 : HA 8 3 = ii X.1.2.2 := by rw [← hHA, uI_o (by omega)]; exact r1.2.2
  have A91 : HA 9 1 = ii 0 := by rw [← hHA, uI_s]
  by_cases q : X.1.2.1 = 0
  · have hY := hYK q
    have hDA : Dc HA X.2 := by
      rw [← hHA]
      obtain ⟨e1, e2, e3, e4⟩ := d1
      refine ⟨?_, ?_, fun j hj => by rw [uI_o (by omega)]; exact e3 j hj, fun p hp => ?_⟩
      · rw [uI_o (by omega), uI_o (by omega), uI_o (by omega), uI_o (by omega), uI_o (by omega), uI_o (by omega)]; exact e1
      · rw [uI_o (by omega), uI_o (by omega)]; exact e2
      · rw [uI_o (by omega), uI_o (by omega), uI_o (by omega), uI_o (by omega), uI_o (by omega)]; exact e4 p hp
    obtain ⟨⟨e0, e1, e2, e3, e4, e5⟩, -, ew, ep⟩ := hDA
    obtain ⟨HB, f2, ⟨c0, c1, c2, c3, c4, c5⟩, cw, cp, oB⟩ := become8_c (b := b) (H := HA)
    have hl12 : X.2 0 0 ≤ 12 := hY.1.1.2
    have hp4 : X.2 0 1 ≤ 4 := hY.1.2.1.2
    have hYdB : Yd HB X.2 := by
      refine ⟨by rw [c0, e0], by rw [c1, e1], by rw [c3, e3], by rw [c4, e4], by rw [c5, e5], fun j hj => by rw [cw j (by omega)]; exact ew j hj, fun p hp => ?_⟩
      obtain ⟨g1, g2, g3, g4, g5⟩ := cp p (by omega)
      obtain ⟨k1, k2, k3, k4, k5⟩ := ep p hp
      exact ⟨by rw [g1, k1], by rw [g2, k2], by rw [g3, k3], by rw [g5, k5]⟩
    obtain ⟨r, f3, hr1, hr2⟩ := startYard_c (b := b) (H := HB) hY (by rw [c2, e2]) (fun p hp => by
      obtain ⟨g1, g2, g3, g4, g5⟩ := cp p (by omega)
      obtain ⟨k1, k2, k3, k4, k5⟩ := ep p hp
      exact ⟨by rw [g1, k1], by rw [g4, k4]⟩)
    generalize hHC : ps_uI (ps_uI (ps_uI (ps_uI (ps_uI (putW HB 18 r) 189 1 (ii 0)) 191 1 (ii 0)) 23 0 (ii 0)) 193 2 (ii 0)) 199 2 (ii 0) = HC
    have oC : ∀ c k, ¬ (18 ≤ c ∧ c ≤ 22) → ¬ (c = 189 ∧ k = 1) → ¬ (c = 191 ∧ k = 1) → ¬ (c = 23 ∧ k = 0) → ¬ (c = 193 ∧ k = 2) → ¬ (c = 199 ∧ k = 2) → HC c k = HB c k := fun c k q1 q2 q3 q4 q5 q6 => by rw [← hHC, uI_o q6, uI_o q5, uI_o q4, uI_o q3, uI_o q2, putW_o _ _ _ (by omega)]
    have F1 : f_X9_yard (mk h b) 0 = some (ii (X.2 0 0), mk HC b) := by
      unfold f_X9_yard f_X5_clear f_X2_clear
      rw [g0_1, ck_mk zk_8, f1, b1_mk, g0_1, gI_mk zk_8, A82, if_pos (by rw [q]; rfl), g0_0, g0_1, gR_mk zk_8 (zr_8_1 b), ck_mk zk_1, f2, b1_mk, g0_2, g0_0, ck_mk iw_18.1, f3, b1_mk, g0_6, ck_mk zk_189, pI_mk zk_189, b1_mk, g0_7, ck_mk zk_191, pI_mk zk_191, b1_mk, g0_3, ck_mk zk_23, pI_mk zk_23, b1_mk, g0_8, pZ_mk zk_193 (Or.inl rfl), g0_9, pZ_mk zk_199 (Or.inl rfl), g0_0, gI_mk zk_1, show (0 : Int32) = ii 0 by decide, hHC, oC 1 0 (by omega) (by omega) (by omega) (by omega) (by omega) (by omega), hYdB.1]
    have ohC : ∀ c k, c = 0 ∨ (205 ≤ c) ∨ (24 ≤ c ∧ c ≤ 188) ∨ (c = 23 ∧ k = 1) → HC c k = h c k := fun c k a => by rw [oC c k (by omega) (by omega) (by omega) (by omega) (by omega) (by omega), oB c k (by omega), oA c k (by omega) (by omega) (by omega)]
    obtain ⟨HD, f4, m4, r4, d4⟩ := yard_m (b := b) (hTm HC (fun c k a => ohC c k (by omega)))
    rw [hX] at r4 d4
    have hDm := d4 q
    have hDm2 : Dm (ps_uI HD 205 21 (ii 0)) X.2 := ⟨Da_u hDm.1 (by omega), Tb_c hDm.2 (by rw [uI_o (by omega)]) Iff.rfl Iff.rfl Iff.rfl⟩
    obtain ⟨HE, m, f5, hYm, hmr, hm1, hm2, hz, oE⟩ := take_m (b := b) hDm2 hY
    have F2 : f_X10_yard (mk HC b) 205 = some (ii (X.2 0 0), mk HE b) := by
      rw [f4]
      unfold f_X10_yard_b115
      rw [pI_mk zk_205, gI_mk zk_205, uI_o (by omega), r4.2.1, show (0 : Int32) = ii 0 by decide, if_pos (by rw [ii_le (by omega) (by omega) (by omega) (by omega)]; omega), ck_mk zk_205, f5, b1_mk, gI_mk zk_205, hYm.1]
    have oDE : ∀ c k, ¬ ((c = 205 ∧ 2 ≤ k) ∨ (c = 206 ∧ k < 25) ∨ (207 ≤ c ∧ c ≤ 213)) → HE c k = HC c k := fun c k a => by rw [oE c k (by omega), uI_o (by omega), m4 c k (by omega)]
    refine eqv_of F1 F2 ⟨HE, b, X.2, rfl, Rel_up (g := 891 * k) ?_ (by omega)⟩
    refine ⟨⟨hY.1, Yd_c hYdB (fun c k a1 a2 => by rw [oDE c k (by omega), oC c k (by omega) (by omega) (by omega) (by omega) (by omega) (by omega)]), hYm⟩, ?_, ⟨?_, ?_⟩, Ls_zero ?_ hz.1, Ls_zero ?_ hz.2.1, Ls_zero ?_ ?_, ?_, Or.inl ⟨?_, hz.2.2.2.1⟩, Or.inl ⟨?_, hz.2.2.2.2⟩, ?_⟩
    · unfold RN
      have e1 : wk HE 18 = wk (putW HB 18 r) 18 := wk_c (fun c k a1 a2 => by rw [oDE c k (by omega), ← hHC, uI_o (by omega), uI_o (by omega), uI_o (by omega), uI_o (by omega), uI_o (by omega)])
      rw [e1, hmr]
      refine Ok_put ?_ hY.1 (by omega) _ _ 18 0
      obtain ⟨p16, p17, p18, p19, p20, p21, p22, p23, p24⟩ := hr1
      obtain ⟨w16, w17, w18, w19, w20, w21, w22, w23, w24⟩ := hm1
      have hl0 := hY.1.1.1
      have ht9 := hY.2.1
      refine ⟨⟨by omega, by omega, by omega, by omega, by omega, by omega, fun p hp => ?_⟩, Or.inl ⟨p16, p17, p18⟩, fun j j1 j2 => ?_, fun p hp => ?_⟩
      · obtain ⟨k1, k2, k3, k4⟩ := hr2 p hp
        have hb2 := (hY.1.2.2.2.2.2.2 p hp).1
        have hb5 := hY.2.2.2 p hp
        rw [k1, k2, k3, k4]
        omega
      · rcases (by omega : j = 16 ∨ j = 17 ∨ j = 18 ∨ j = 19 ∨ j = 20 ∨ j = 21 ∨ j = 22 ∨ j = 23 ∨ j = 24) with rfl | rfl | rfl | rfl | rfl | rfl | rfl | rfl | rfl
        · rw [w16, p16]
        · rw [w17, p17]
        · rw [w18, p18]
        · rw [w19, p19]
        · rw [w20, p20]
        · rw [w21, p21]
        · rw [w22, p22]
        · rw [w23, p23]
        · rw [w24, p24]
      · obtain ⟨k1, k2, k3, k4⟩ := hr2 p hp
        obtain ⟨l1, l2, l3, l4⟩ := hm2 p hp
        exact ⟨by rw [l1, k1], by rw [l2, k2], by rw [l3, k3], by rw [l4, k4]⟩
    · rw [oDE 206 25 (by omega), oDE 0 10 (by omega), ohC 206 25 (by omega), ohC 0 10 (by omega)]
      exact hS.1
    · rw [oDE 0 10 (by omega), ohC 0 10 (by omega)]
      exact hS.2
    · rw [oDE 189 1 (by omega), ← hHC, uI_o (by omega), uI_o (by omega), uI_o (by omega), uI_o (by omega), uI_s]
    · rw [oDE 191 1 (by omega), ← hHC, uI_o (by omega), uI_o (by omega), uI_o (by omega), uI_s]
    · rw [oDE 9 1 (by omega), oC 9 1 (by omega) (by omega) (by omega) (by omega) (by omega) (by omega), oB 9 1 (by omega), A91]
    · rw [oE 205 21 (by omega), uI_s]
    · unfold RF
      rw [oE 205 25 (by omega), uI_o (by omega), r4.2.2, oDE 8 3 (by omega), oC 8 3 (by omega) (by omega) (by omega) (by omega) (by omega) (by omega), oB 8 3 (by omega), A83]
    · rw [oDE 193 2 (by omega), ← hHC, uI_o (by omega), uI_s]
    · rw [oDE 199 2 (by omega), ← hHC, uI_s]
    · obtain ⟨n', t', hn, ht', p0, p26, p1, hold⟩ := hP
      refine RP_zero ht' ?_ ?_ hz.2.2.1
      · rw [oDE 23 0 (by omega), ← hHC, uI_o (by omega), uI_o (by omega), uI_s]
      · rw [oDE 23 1 (by omega), ohC 23 1 (by omega)]
        exact p1
  · have F1 : f_X9_yard (mk h b) 0 = some (ii (-10 - X.1.2.1), mk HA b) := by
      unfold f_X9_yard
      rw [g0_1, ck_mk zk_8, f1, b1_mk, g0_1, gI_mk zk_8, A82, if_neg (by rw [show (0 : Int32) = ii 0 by decide, ii_eq (by omega) (by omega) (by omega) (by omega)]; exact q), g0_1, gI_mk zk_8, A82, show (-10 : Int32) = ii (-10) by decide, ii_sub]
    obtain ⟨HD, f4, m4, r4, d4⟩ := yard_m (b := b) (hTm HA (fun c k a => oA c k (by omega) (by omega) (by omega)))
    rw [hX] at r4
    have F2 : f_X10_yard (mk HA b) 205 = some (ii (-10 - X.1.2.1), mk (ps_uI HD 205 21 (ii 0)) b) := by
      rw [f4]
      unfold f_X10_yard_b115
      rw [pI_mk zk_205, gI_mk zk_205, uI_o (by omega), r4.2.1, show (0 : Int32) = ii 0 by decide, if_neg (by rw [ii_le (by omega) (by omega) (by omega) (by omega)]; omega), gI_mk zk_205, uI_o (by omega), r4.2.1, show (-10 : Int32) = ii (-10) by decide, ii_sub]
    have o : ∀ c k, ¬ (c = 8 ∧ 2 ≤ k) → ¬ (11 ≤ c ∧ c ≤ 17) → ¬ (c = 9 ∧ k = 1) → ¬ (c = 205 ∧ 7 ≤ k ∧ k ≤ 25) → ¬ (c = 208 ∧ 12 ≤ k) → ¬ (209 ≤ c ∧ c ≤ 213 ∧ 4 ≤ k) → ps_uI HD 205 21 (ii 0) c k = h c k := fun c k q1 q2 q3 q4 q5 q6 => by
      rw [uI_o (by omega), m4 c k (by omega), oA c k q1 q2 q3]
    refine eqv_of F1 F2 ⟨_, b, y, rfl, Rel_up (g := 891 * k) ?_ (by omega)⟩
    refine ⟨⟨hRY.1, Yd_c hRY.2.1 (fun c k a1 a2 => o c k (by omega) (by omega) (by omega) (by omega) (by omega) (by omega)), Ym_lo hRY.1 hRY.2.2 (fun c k a => o c k (by omega) (by omega) (by omega) (by omega) (by omega) (by omega))⟩, RN_c hy4 hN (fun c k a => o c k (by omega) (by omega) (by omega) (by omega) (by omega) (by omega)), RS_c hS (fun c k a => o c k (by omega) (by omega) (by omega) (by omega) (by omega) (by omega)), Ls_c hseen (fun c k a => o c k (by omega) (by omega) (by omega) (by omega) (by omega) (by omega)), Ls_c hbook (fun c k a => o c k (by omega) (by omega) (by omega) (by omega) (by omega) (by omega)), Ls_zero ?_ uI_s, ?_, RI_c hy4 hI0 (fun c k a => o c k (by omega) (by omega) (by omega) (by omega) (by omega) (by omega)), RI_c hy4 hI1 (fun c k a => o c k (by omega) (by omega) (by omega) (by omega) (by omega) (by omega)), RP_c hy4 hP (fun c k a => o c k (by omega) (by omega) (by omega) (by omega) (by omega) (by omega))⟩
    · rw [uI_o (by omega), m4 9 1 (by omega), A91]
    · unfold RF
      rw [uI_o (by omega), r4.2.2, uI_o (by omega), m4 8 3 (by omega), A83]
