/-! the deeds one by one -/
theorem Vb_rs {y : Nat → Nat → Int} {g g' v : Int} {r : Nat → Int} {j : Nat} (h : Vb y g r) (hn : y 0 1 ≤ 4) (hg : g ≤ g') (h1 : j ≠ 19 ∧ j ≠ 21 ∧ ¬ (4 ≤ j ∧ j < 12)) (h2 : j = 20 ∨ j = 22 → 0 ≤ v ∧ v ≤ g') (h3 : j = 23 → v = 0 ∨ v = 1) (h4 : j = 24 → 1 ≤ v ∧ v ≤ 9) (h5 : j < 4 → 1 ≤ v ∧ v ≤ 20) (h6 : 12 ≤ j ∧ j < 16 → 0 ≤ v ∧ v ≤ 9) : Vb y g' (rs r j v) := by
  obtain ⟨v1, v2, v3, v4, v5, v6, v7⟩ := h
  refine ⟨by rw [rs_ne _ _ (by omega)]; exact v1, ?_, by rw [rs_ne _ _ (by omega)]; omega, ?_, ?_, ?_, fun p hp => ?_⟩
  · by_cases e : j = 20
    · rw [e, rs_same]; exact h2 (Or.inl e)
    · rw [rs_ne _ _ (by omega)]; omega
  · by_cases e : j = 22
    · rw [e, rs_same]; exact h2 (Or.inr e)
    · rw [rs_ne _ _ (by omega)]; omega
  · by_cases e : j = 23
    · rw [e, rs_same]; exact h3 e
    · rw [rs_ne _ _ (by omega)]; exact v5
  · by_cases e : j = 24
    · rw [e, rs_same]; exact h4 e
    · rw [rs_ne _ _ (by omega)]; exact v6
  · obtain ⟨w1, w2, w3, w4⟩ := v7 p hp
    refine ⟨?_, by rw [rs_ne _ _ (by omega)]; exact w2, by rw [rs_ne _ _ (by omega)]; exact w3, ?_⟩
    · by_cases e : p = j
      · rw [e, rs_same]; exact h5 (by omega)
      · rw [rs_ne _ _ e]; exact w1
    · by_cases e : 12 + p = j
      · rw [e, rs_same]; exact h6 (by omega)
      · rw [rs_ne _ _ e]; exact w4
theorem Ok_rs {y : Nat → Nat → Int} {g g' v : Int} {r m : Nat → Int} {j : Nat} (h : Ok y g r m) (hv : Vb y g' (rs r j v)) (hj : j ≠ 16 ∧ j ≠ 17 ∧ j ≠ 18) : Ok y g' (rs r j v) (rs m j v) := by
  obtain ⟨h1, h2, h3, h4⟩ := h
  have e16 : rs r j v 16 = r 16 := rs_ne _ _ (by omega)
  have e17 : rs r j v 17 = r 17 := rs_ne _ _ (by omega)
  have e18 : rs r j v 18 = r 18 := rs_ne _ _ (by omega)
  have key : ∀ i, m i = r i → rs m j v i = rs r j v i := by
    intro i hi
    unfold rs
    rw [hi]
  refine ⟨hv, ?_, fun i a b => key i (h3 i a b), fun p hp => ?_⟩
  · rw [e16, e17, e18]
    rcases h2 with q | ⟨q1, q2⟩
    · exact Or.inl q
    · refine Or.inr ⟨q1, ?_⟩
      unfold Pr at q2 ⊢
      rw [e16, e17, e18]
      exact q2
  · obtain ⟨a1, a2, a3, a4⟩ := h4 p hp
    exact ⟨key _ a1, key _ a2, key _ a3, key _ a4⟩
/-- sides changed -/
def swl (r : Nat → Int) : Nat → Int := rs (rs r 16 (r 17)) 17 (r 16)
theorem Ok_swl {y : Nat → Nat → Int} {g : Int} {r m : Nat → Int} (h : Ok y g r m) (hL : 0 < y 0 0) (hp : Pr y r) (hn : y 0 1 ≤ 4) : Ok y g (swl r) (swl m) := by
  obtain ⟨⟨v1, v2, v3, v4, v5, v6, v7⟩, h2, h3, h4⟩ := h
  have ne : ∀ (x : Nat → Int) j, j ≠ 16 → j ≠ 17 → swl x j = x j := fun x j a b => by unfold swl; rw [rs_ne _ _ b, rs_ne _ _ a]
  have e16 : ∀ x : Nat → Int, swl x 16 = x 17 := fun x => by unfold swl; rw [rs_ne _ _ (by omega), rs_same]
  have e17 : ∀ x : Nat → Int, swl x 17 = x 16 := fun x => by unfold swl; rw [rs_same]
  refine ⟨⟨by rw [ne _ _ (by omega) (by omega)]; exact v1, by rw [ne _ _ (by omega) (by omega)]; exact v2, by rw [ne _ _ (by omega) (by omega)]; exact v3, by rw [ne _ _ (by omega) (by omega)]; exact v4, by rw [ne _ _ (by omega) (by omega)]; exact v5, by rw [ne _ _ (by omega) (by omega)]; exact v6, fun p hp' => ?_⟩, Or.inr ⟨hL, ?_⟩, fun j a b => ?_, fun p hp' => ?_⟩
  · rw [ne _ _ (by omega) (by omega), ne _ _ (by omega) (by omega), ne _ _ (by omega) (by omega), ne _ _ (by omega) (by omega)]
    exact v7 p hp'
  · unfold Pr at hp ⊢
    rw [e16, e17, ne _ _ (by omega) (by omega)]
    omega
  · by_cases c1 : j = 16
    · rw [c1, e16, e16]; exact h3 17 (by omega) (by omega)
    · by_cases c2 : j = 17
      · rw [c2, e17, e17]; exact h3 16 (by omega) (by omega)
      · rw [ne _ _ c1 c2, ne _ _ c1 c2]; exact h3 j a b
  · rw [ne _ _ (by omega) (by omega), ne _ _ (by omega) (by omega), ne _ _ (by omega) (by omega), ne _ _ (by omega) (by omega), ne _ _ (by omega) (by omega), ne _ _ (by omega) (by omega), ne _ _ (by omega) (by omega), ne _ _ (by omega) (by omega)]
    exact h4 p hp'
theorem uI_id {h : zM} {a i : Nat} {v : Int32} (hv : h a i = v) : ps_uI h a i v = h := by
  funext c k
  unfold ps_uI
  split
  · rename_i q; rw [q.1, q.2, hv]
  · rfl
theorem arm8 : ps_arm8 Inv := by
  rintro k M x hk ⟨h, b, y, rfl, hR⟩
  have hR0 := hR
  obtain ⟨X, rfl, x1, x2⟩ := ex_ii x
  obtain ⟨t0, hs, hcase⟩ := sawing (b := b) hR x1 x2
  obtain ⟨hRY, hN, hS, hseen, hbook, htext, hF, hI0, hI1, hP⟩ := hR
  have hb := wk16_b hN hRY.1
  obtain ⟨n, t, hn, ht, p0, p26, p1, hold⟩ := hP
  have hy4 := hRY.1.2.1.2
  obtain ⟨e16, e17, e18, e19, e20, e21, e22, e23, e24, erow⟩ := RN_eq hN
  obtain ⟨o0, o1, o2, o3, o4, o5, o6, o7, o8⟩ := wk_or h 18
  obtain ⟨hvd, hvs, hva, hvg, hvw, hvt, hvp⟩ := hN.1
  have k0 := iw_18.1
  have w := putW_r (crem h n t) 18
  have u := uI_w (crem h n t) 18
  have min_ : ∀ H : zM, f_X10_in (mk H b) ((ii X).toInt64) (1 : Int64) (99 : Int64) = some (ii (if 1 ≤ X ∧ X ≤ 99 then 1 else 0), mk H b) := fun H => by
    rw [ii_l64 x1 x2, l64_lits.2.1, show (99 : Int64) = l64 99 by decide, in_mk (by omega) (by omega) (by omega) (by omega) (by omega) (by omega)]
  rcases hcase with ⟨rfl, c⟩ | ⟨rfl, c, cr⟩ | ⟨rfl, c, ⟨hL, hp⟩, hth⟩
  · refine eqv_of (r := ii (-1000000002)) (h1 := h) (h2 := h) (b1 := b) (b2 := b) ?_ ?_ (inv_of hR0)
    · unfold f_X9_rest
      rw [ck_mk zk_0, hs, b2_mk, if_neg (by decide)]
    · show f_X10_rest (mk h b) 205 (ii X) = _
      unfold f_X10_rest
      rw [min_, b2_mk, if_neg c, if_pos (by decide)]
      rfl
  · refine eqv_of (r := ii (-1000000003)) (h1 := h) (h2 := h) (b1 := b) (b2 := b) ?_ ?_ (inv_of hR0)
    · unfold f_X9_rest
      rw [ck_mk zk_0, hs, b2_mk, if_neg (by decide)]
    · show f_X10_rest (mk h b) 205 (ii X) = _
      unfold f_X10_rest
      rw [min_, b2_mk, if_pos c, if_neg (by decide), ck_mk zk_205, mpair hN hRY.1 (fun _ _ => rfl), b2_mk]
      by_cases cp : wk h 18 16 = -1
      · rw [if_pos cp, if_pos (by decide)]
        rfl
      · rw [if_neg cp, if_neg (by decide), ck_mk zk_205, show (0 : Int32) = ii 0 by decide, mthru hN hRY.1 hRY.2.2 (fun _ _ => rfl), b2_mk]
        have hth : thr y (wk h 18) := Classical.byContradiction fun q => cr ⟨hb.2.2 cp, q⟩
        rw [if_pos hth, if_neg (by decide)]
        rfl
  · have cp : ¬ wk h 18 16 = -1 := fun q => hb.2.1 q hp
    generalize hH : putW (crem h n t) 18 (rst (wk h 18) X) = H
    have oH : ∀ c k, c < 18 ∨ 174 < c → H c k = h c k := fun c k q => by rw [← hH, putW_o _ _ _ (by omega), crem_o (by omega) ht]
    have hYmH : Ym H y := Ym_c hRY.2.2 (fun c k q => oH c k (by omega))
    have em : mrow H 0 = mrow h 0 := by funext j; exact mrow_c (oH _ _ (by omega))
    have hm25 : ∀ j, 16 ≤ j → j < 25 → mrow h 0 j = wk h 18 j := fun j a b => hN.2.2.1 j a b
    have mp := mpair (b := b) hN hRY.1 (H := H) (fun k _ => oH 206 k (by omega))
    have mr := mrem_mk (b := b) hn (show H 205 26 = ii n by rw [oH 205 26 (by omega)]; exact p26)
    rw [em] at mr
    refine eqv_of (r := ii (wk h 18 20 + X)) (h1 := H) (h2 := putM (mrem H n) 0 (rst (mrow h 0) X)) (b1 := b) (b2 := b) ?_ ?_ ⟨_, b, y, rfl, ?_⟩
    · unfold f_X9_rest
      rw [ck_mk zk_0, hs, b2_mk, if_pos (by decide), g0_3, g0_2, ck_mk zk_23, crem_mk hN hn ht p0 p1, b1_mk, g0_2, ck_mk k0, restFor_mk iw_18 hRY.1 hN.1 hp (by omega), b1_mk, g0_2, gI_mk k0, (w _).2.2.2.2.1, hH]
      rfl
    · show f_X10_rest (mk H b) 205 (ii X) = _
      unfold f_X10_rest
      rw [min_, b2_mk, if_pos c, if_neg (by decide), ck_mk zk_205, mp, b2_mk, if_neg cp, if_neg (by decide), ck_mk zk_205, show (0 : Int32) = ii ((0 : Nat) : Int) by decide, show ii ((0 : Nat) : Int) = ii 0 from rfl, mthru hN hRY.1 hYmH (fun k _ => oH 206 k (by omega)), b2_mk, if_neg hth, if_pos rfl, ck_mk zk_205, mr, b1_mk, ck_mk zk_205, show ii 0 = ii ((0 : Nat) : Int) from rfl, mrelax_mk hRY.1 (req_Vb hN.2.2 hN.1) (req_Pr hN.2.2 hp) (by omega) (by omega), b1_mk, gW, show (20 : Int32) = ii 20 by decide, rdM (j := 20) (by omega) (by omega) (by omega)]
      show some (ii (mrow h 0 20 + X), _) = _
      rw [hm25 20 (by omega) (by omega)]
    · rw [← hH]
      exact Rel_up (deed hR0 hn ht hold (g' := 891 * (k + 1 : Nat)) (by omega) (by omega) ((Ok.rest hRY.1 hN hL hp (by omega)).up (by omega))) (by omega)
theorem arm9 : ps_arm9 Inv := by
  rintro k M hk ⟨h, b, y, rfl, hR⟩
  have hR0 := hR
  obtain ⟨hRY, hN, hS, hseen, hbook, htext, hF, hI0, hI1, hP⟩ := hR
  have hb := wk16_b hN hRY.1
  obtain ⟨n, t, hn, ht, p0, p26, p1, hold⟩ := hP
  have hy4 := hRY.1.2.1.2
  obtain ⟨e16, e17, e18, e19, e20, e21, e22, e23, e24, erow⟩ := RN_eq hN
  obtain ⟨o0, o1, o2, o3, o4, o5, o6, o7, o8⟩ := wk_or h 18
  obtain ⟨hvd, hvs, hva, hvg, hvw, hvt, hvp⟩ := hN.1
  have k0 := iw_18.1
  have w := putW_r (crem h n t) 18
  have u := uI_w (crem h n t) 18
  by_cases cp : wk h 18 16 = -1
  · refine eqv_of (r := ii (-1000000003)) (h1 := h) (h2 := h) (b1 := b) (b2 := b) ?_ ?_ (inv_of hR0)
    · unfold f_X9_sides
      rw [g0_2, ck_mk k0, pair18 hN hRY.1, b2_mk, if_pos cp, if_pos (by decide)]
      rfl
    · show f_X10_sides (mk h b) 205 = _
      unfold f_X10_sides
      rw [ck_mk zk_205, mpair hN hRY.1 (fun _ _ => rfl), b2_mk, if_pos cp, if_pos (by decide)]
      rfl
  obtain ⟨hL, hp⟩ := hb.2.2 cp
  generalize hH : putW (crem h n t) 18 (swl (wk h 18)) = H
  have oH : ∀ c k, c < 18 ∨ 174 < c → H c k = h c k := fun c k q => by rw [← hH, putW_o _ _ _ (by omega), crem_o (by omega) ht]
  have hYmH : Ym H y := Ym_c hRY.2.2 (fun c k q => oH c k (by omega))
  have em : mrow H 0 = mrow h 0 := by funext j; exact mrow_c (oH _ _ (by omega))
  have hm25 : ∀ j, 16 ≤ j → j < 25 → mrow h 0 j = wk h 18 j := fun j a b => hN.2.2.1 j a b
  have mp := mpair (b := b) hN hRY.1 (H := H) (fun k _ => oH 206 k (by omega))
  have mr := mrem_mk (b := b) hn (show H 205 26 = ii n by rw [oH 205 26 (by omega)]; exact p26)
  rw [em] at mr
  refine eqv_of (r := ii (wk h 18 17)) (h1 := H) (h2 := putM (mrem H n) 0 (swl (mrow h 0))) (b1 := b) (b2 := b) ?_ ?_ ⟨_, b, y, rfl, ?_⟩
  · unfold f_X9_sides f_X7_changeSides
    rw [g0_2, ck_mk k0, pair18 hN hRY.1, b2_mk, if_neg cp, if_neg (by decide), g0_3, g0_2, ck_mk zk_23, crem_mk hN hn ht p0 p1, b1_mk, g0_2, ck_mk k0, gI_mk k0, (w _).1, gI_mk k0, (w _).2.1, pI_mk k0, (u _ _).1, pI_mk k0, (u _ _).2.1, b1_mk, g0_2, gI_mk k0, (w _).1]
    show some (ii (swl (wk h 18) 16), mk (putW (crem h n t) 18 (swl (wk h 18))) b) = _
    rw [hH]
    unfold swl
    rw [rs_ne _ _ (by omega), rs_same]
  · show f_X10_sides (mk H b) 205 = _
    unfold f_X10_sides
    simp only [ii_lits]
    rw [ck_mk zk_205, mp, b2_mk, if_neg cp, if_neg (by decide), ck_mk zk_205, mr, b1_mk, gW, rdM (j := 16) (by omega) (by omega) (by omega), gW, gW, rdM (j := 17) (by omega) (by omega) (by omega), wrM (j := 16) (by omega) (by omega) (by omega), gW, wrM (j := 17) (by omega) (by omega) (by omega), gW, rdM (j := 16) (by omega) (by omega) (by omega)]
    rw [rs_ne _ _ (by omega), rs_same, hm25 17 (by omega) (by omega), hm25 16 (by omega) (by omega)]
    unfold swl
    rw [hm25 17 (by omega) (by omega), hm25 16 (by omega) (by omega)]
  · rw [← hH]
    exact Rel_up (deed hR0 hn ht hold (g' := 891 * (k + 1 : Nat)) (by omega) (by omega) ((Ok_swl hN hL hp hy4).up (by omega))) (by omega)
theorem arm10 : ps_arm10 Inv := by
  rintro k M hk ⟨h, b, y, rfl, hR⟩
  have hR0 := hR
  obtain ⟨hRY, hN, hS, hseen, hbook, htext, hF, hI0, hI1, hP⟩ := hR
  have hb := wk16_b hN hRY.1
  obtain ⟨n, t, hn, ht, p0, p26, p1, hold⟩ := hP
  have hy4 := hRY.1.2.1.2
  obtain ⟨e16, e17, e18, e19, e20, e21, e22, e23, e24, erow⟩ := RN_eq hN
  obtain ⟨o0, o1, o2, o3, o4, o5, o6, o7, o8⟩ := wk_or h 18
  obtain ⟨hvd, hvs, hva, hvg, hvw, hvt, hvp⟩ := hN.1
  have k0 := iw_18.1
  have w := putW_r (crem h n t) 18
  have u := uI_w (crem h n t) 18
  by_cases cp : wk h 18 16 = -1
  · refine eqv_of (r := ii (-1000000003)) (h1 := h) (h2 := h) (b1 := b) (b2 := b) ?_ ?_ (inv_of hR0)
    · unfold f_X9_oil
      rw [g0_2, ck_mk k0, pair18 hN hRY.1, b2_mk, if_pos cp, if_pos (by decide)]
      rfl
    · show f_X10_oil (mk h b) 205 = _
      unfold f_X10_oil
      rw [ck_mk zk_205, mpair hN hRY.1 (fun _ _ => rfl), b2_mk, if_pos cp, if_pos (by decide)]
      rfl
  obtain ⟨hL, hp⟩ := hb.2.2 cp
  have rdw22 : ∀ (f : Int32 → Option (Int32 × ps_M)) (H : zM), ps_aI (mk H b) 206 (ii 22) f = f (H 206 22) := fun f H => by rw [aI_mk zk_206 (by omega) (by rw [zl_206]; omega) (by rw [zl_206]; omega)]; rfl
  by_cases cg : wk h 18 22 = 0
  · refine eqv_of (r := ii 0) (h1 := h) (h2 := h) (b1 := b) (b2 := b) ?_ ?_ (inv_of hR0)
    · unfold f_X9_oil
      rw [g0_2, ck_mk k0, pair18 hN hRY.1, b2_mk, if_neg cp, if_neg (by decide), g0_2, gI_mk k0, o6, cg, if_pos (by decide)]
      rfl
    · show f_X10_oil (mk h b) 205 = _
      unfold f_X10_oil f_X10_oil_b26
      simp only [ii_lits]
      rw [ck_mk zk_205, mpair hN hRY.1 (fun _ _ => rfl), b2_mk, if_neg cp, if_neg (by decide), gW, rdw22, e22, o6, cg, if_pos (by decide), gW, xI_mk zk_206 (by omega) (by rw [zl_206]; omega) (by rw [zl_206]; omega), show (22 : Int).toNat = 22 from rfl, uI_id (by rw [e22, o6, cg])]
  generalize hH : putW (crem h n t) 18 (rs (wk h 18) 22 0) = H
  have oH : ∀ c k, c < 18 ∨ 174 < c → H c k = h c k := fun c k q => by rw [← hH, putW_o _ _ _ (by omega), crem_o (by omega) ht]
  have hYmH : Ym H y := Ym_c hRY.2.2 (fun c k q => oH c k (by omega))
  have em : mrow H 0 = mrow h 0 := by funext j; exact mrow_c (oH _ _ (by omega))
  have hm25 : ∀ j, 16 ≤ j → j < 25 → mrow h 0 j = wk h 18 j := fun j a b => hN.2.2.1 j a b
  have mp := mpair (b := b) hN hRY.1 (H := H) (fun k _ => oH 206 k (by omega))
  have mr := mrem_mk (b := b) hn (show H 205 26 = ii n by rw [oH 205 26 (by omega)]; exact p26)
  rw [em] at mr
  refine eqv_of (r := ii (wk h 18 22)) (h1 := H) (h2 := putM (mrem H n) 0 (rs (mrow h 0) 22 0)) (b1 := b) (b2 := b) ?_ ?_ ⟨_, b, y, rfl, ?_⟩
  · unfold f_X9_oil f_X9_oil_b44
    simp only [ii_lits]
    rw [g0_2, ck_mk k0, pair18 hN hRY.1, b2_mk, if_neg cp, if_neg (by decide), g0_2, gI_mk k0, o6, if_neg (by rw [ii_eq (by omega) (by omega) (by omega) (by omega)]; exact cg), g0_3, g0_2, ck_mk zk_23, crem_mk hN hn ht p0 p1, b1_mk, g0_2, pI_mk k0, (u _ _).2.2.2.2.2.2.1, hH]
  · show f_X10_oil (mk H b) 205 = _
    unfold f_X10_oil f_X10_oil_b26
    simp only [ii_lits]
    rw [ck_mk zk_205, mp, b2_mk, if_neg cp, if_neg (by decide), gW, rdw22, oH 206 22 (by omega), e22, o6, if_neg (by rw [ii_le (by omega) (by omega) (by omega) (by omega)]; omega), ck_mk zk_205, mr, b1_mk, gW, wrM (j := 22) (by omega) (by omega) (by omega)]
  · rw [← hH]
    exact Rel_up (deed hR0 hn ht hold (g' := 891 * (k + 1 : Nat)) (by omega) (by omega) (Ok_rs hN (Vb_rs hN.1 hy4 (by omega) (by omega) (by omega) (by omega) (by omega) (by omega) (by omega)) (by omega))) (by omega)
theorem arm11 : ps_arm11 Inv := by
  rintro k M hk ⟨h, b, y, rfl, hR⟩
  have hR0 := hR
  obtain ⟨hRY, hN, hS, hseen, hbook, htext, hF, hI0, hI1, hP⟩ := hR
  have hb := wk16_b hN hRY.1
  obtain ⟨n, t, hn, ht, p0, p26, p1, hold⟩ := hP
  have hy4 := hRY.1.2.1.2
  obtain ⟨e16, e17, e18, e19, e20, e21, e22, e23, e24, erow⟩ := RN_eq hN
  obtain ⟨o0, o1, o2, o3, o4, o5, o6, o7, o8⟩ := wk_or h 18
  obtain ⟨hvd, hvs, hva, hvg, hvw, hvt, hvp⟩ := hN.1
  have k0 := iw_18.1
  have w := putW_r (crem h n t) 18
  have u := uI_w (crem h n t) 18
  by_cases cp : wk h 18 16 = -1
  · refine eqv_of (r := ii (-1000000003)) (h1 := h) (h2 := h) (b1 := b) (b2 := b) ?_ ?_ (inv_of hR0)
    · unfold f_X9_wedge
      rw [g0_2, ck_mk k0, pair18 hN hRY.1, b2_mk, if_pos cp, if_pos (by decide)]
      rfl
    · show f_X10_wedge (mk h b) 205 = _
      unfold f_X10_wedge
      rw [ck_mk zk_205, mpair hN hRY.1 (fun _ _ => rfl), b2_mk, if_pos cp, if_pos (by decide)]
      rfl
  obtain ⟨hL, hp⟩ := hb.2.2 cp
  have rdw : ∀ (f : Int32 → Option (Int32 × ps_M)) (H : zM), ps_aI (mk H b) 206 (ii 23) f = f (H 206 23) := fun f H => by rw [aI_mk zk_206 (by omega) (by rw [zl_206]; omega) (by rw [zl_206]; omega)]; rfl
  by_cases cg : wk h 18 23 = 1
  · refine eqv_of (r := ii (-1000000003)) (h1 := h) (h2 := h) (b1 := b) (b2 := b) ?_ ?_ (inv_of hR0)
    · unfold f_X9_wedge
      rw [g0_2, ck_mk k0, pair18 hN hRY.1, b2_mk, if_neg cp, if_neg (by decide), g0_2, gI_mk k0, o8, cg, if_neg (by decide)]
      rfl
    · show f_X10_wedge (mk h b) 205 = _
      unfold f_X10_wedge
      simp only [ii_lits]
      rw [ck_mk zk_205, mpair hN hRY.1 (fun _ _ => rfl), b2_mk, if_neg cp, if_neg (by decide), gW, rdw, e23, o8, cg, if_pos (by decide)]
      rfl
  have cg0 : wk h 18 23 = 0 := by omega
  generalize hH : putW (crem h n t) 18 (rs (rs (wk h 18) 23 1) 20 (wk h 18 20 + 3)) = H
  have oH : ∀ c k, c < 18 ∨ 174 < c → H c k = h c k := fun c k q => by rw [← hH, putW_o _ _ _ (by omega), crem_o (by omega) ht]
  have hYmH : Ym H y := Ym_c hRY.2.2 (fun c k q => oH c k (by omega))
  have em : mrow H 0 = mrow h 0 := by funext j; exact mrow_c (oH _ _ (by omega))
  have hm25 : ∀ j, 16 ≤ j → j < 25 → mrow h 0 j = wk h 18 j := fun j a b => hN.2.2.1 j a b
  have mp := mpair (b := b) hN hRY.1 (H := H) (fun k _ => oH 206 k (by omega))
  have mr := mrem_mk (b := b) hn (show H 205 26 = ii n by rw [oH 205 26 (by omega)]; exact p26)
  rw [em] at mr
  refine eqv_of (r := ii (wk h 18 20 + 3)) (h1 := H) (h2 := putM (mrem H n) 0 (rs (rs (mrow h 0) 23 1) 20 (wk h 18 20 + 3))) (b1 := b) (b2 := b) ?_ ?_ ⟨_, b, y, rfl, ?_⟩
  · unfold f_X9_wedge
    simp only [ii_lits]
    rw [g0_2, ck_mk k0, pair18 hN hRY.1, b2_mk, if_neg cp, if_neg (by decide), g0_2, gI_mk k0, o8, cg0, if_pos rfl, g0_3, g0_2, ck_mk zk_23, crem_mk hN hn ht p0 p1, b1_mk, g0_2, pZ_mk k0 (Or.inr (by decide)), (u _ _).2.2.2.2.2.2.2.2, g0_2, gI_mk k0, (w _).2.2.2.2.1, rs_ne _ _ (by omega), ii_add, pI_mk k0, (u _ _).2.2.2.2.1, g0_2, gI_mk k0, (w _).2.2.2.2.1, rs_same, hH]
  · show f_X10_wedge (mk H b) 205 = _
    unfold f_X10_wedge
    simp only [ii_lits]
    rw [ck_mk zk_205, mp, b2_mk, if_neg cp, if_neg (by decide), gW, rdw, oH 206 23 (by omega), e23, o8, cg0, if_neg (by decide), ck_mk zk_205, mr, b1_mk, gW, wrM (j := 23) (by omega) (by omega) (by omega), gW, rdM (j := 20) (by omega) (by omega) (by omega), rs_ne _ _ (by omega), hm25 20 (by omega) (by omega), ii_add, wrM (j := 20) (by omega) (by omega) (by omega), gW, rdM (j := 20) (by omega) (by omega) (by omega), rs_same]
  · rw [← hH]
    exact Rel_up (deed hR0 hn ht hold (g' := 891 * (k + 1 : Nat)) (by omega) (by omega) (Ok_rs (Ok_rs hN (Vb_rs (g' := 891 * k) hN.1 hy4 (by omega) (by omega) (by omega) (by omega) (by omega) (by omega) (by omega)) (by omega)) (Vb_rs (Vb_rs (g' := 891 * k) hN.1 hy4 (by omega) (by omega) (by omega) (by omega) (by omega) (by omega) (by omega)) hy4 (by omega) (by omega) (by omega) (by omega) (by omega) (by omega) (by omega)) (by omega))) (by omega)
theorem arm12 : ps_arm12 Inv := by
  rintro k M hk ⟨h, b, y, rfl, hR⟩
  have hR0 := hR
  obtain ⟨hRY, hN, hS, hseen, hbook, htext, hF, hI0, hI1, hP⟩ := hR
  have hb := wk16_b hN hRY.1
  obtain ⟨n, t, hn, ht, p0, p26, p1, hold⟩ := hP
  have hy4 := hRY.1.2.1.2
  obtain ⟨e16, e17, e18, e19, e20, e21, e22, e23, e24, erow⟩ := RN_eq hN
  obtain ⟨o0, o1, o2, o3, o4, o5, o6, o7, o8⟩ := wk_or h 18
  obtain ⟨hvd, hvs, hva, hvg, hvw, hvt, hvp⟩ := hN.1
  have k0 := iw_18.1
  have w := putW_r (crem h n t) 18
  have u := uI_w (crem h n t) 18
  by_cases cp : wk h 18 16 = -1
  · refine eqv_of (r := ii (-1000000003)) (h1 := h) (h2 := h) (b1 := b) (b2 := b) ?_ ?_ (inv_of hR0)
    · unfold f_X9_file
      rw [g0_2, ck_mk k0, pair18 hN hRY.1, b2_mk, if_pos cp, if_pos (by decide)]
      rfl
    · show f_X10_file (mk h b) 205 = _
      unfold f_X10_file
      rw [ck_mk zk_205, mpair hN hRY.1 (fun _ _ => rfl), b2_mk, if_pos cp, if_pos (by decide)]
      rfl
  obtain ⟨hL, hp⟩ := hb.2.2 cp
  have rdw : ∀ (f : Int32 → Option (Int32 × ps_M)) (H : zM), ps_aI (mk H b) 206 (ii 24) f = f (H 206 24) := fun f H => by rw [aI_mk zk_206 (by omega) (by rw [zl_206]; omega) (by rw [zl_206]; omega)]; rfl
  by_cases cg : wk h 18 24 = 9
  · refine eqv_of (r := ii (-1000000003)) (h1 := h) (h2 := h) (b1 := b) (b2 := b) ?_ ?_ (inv_of hR0)
    · unfold f_X9_file
      rw [g0_2, ck_mk k0, pair18 hN hRY.1, b2_mk, if_neg cp, if_neg (by decide), g0_2, gI_mk k0, o7, cg, if_neg (by decide)]
      rfl
    · show f_X10_file (mk h b) 205 = _
      unfold f_X10_file
      simp only [ii_lits]
      rw [ck_mk zk_205, mpair hN hRY.1 (fun _ _ => rfl), b2_mk, if_neg cp, if_neg (by decide), gW, rdw, e24, o7, cg, if_pos (by decide)]
      rfl
  generalize hH : putW (crem h n t) 18 (rs (rs (wk h 18) 24 (wk h 18 24 + 1)) 20 (wk h 18 20 + 20)) = H
  have oH : ∀ c k, c < 18 ∨ 174 < c → H c k = h c k := fun c k q => by rw [← hH, putW_o _ _ _ (by omega), crem_o (by omega) ht]
  have hYmH : Ym H y := Ym_c hRY.2.2 (fun c k q => oH c k (by omega))
  have em : mrow H 0 = mrow h 0 := by funext j; exact mrow_c (oH _ _ (by omega))
  have hm25 : ∀ j, 16 ≤ j → j < 25 → mrow h 0 j = wk h 18 j := fun j a b => hN.2.2.1 j a b
  have mp := mpair (b := b) hN hRY.1 (H := H) (fun k _ => oH 206 k (by omega))
  have mr := mrem_mk (b := b) hn (show H 205 26 = ii n by rw [oH 205 26 (by omega)]; exact p26)
  rw [em] at mr
  refine eqv_of (r := ii (wk h 18 24 + 1)) (h1 := H) (h2 := putM (mrem H n) 0 (rs (rs (mrow h 0) 24 (wk h 18 24 + 1)) 20 (wk h 18 20 + 20))) (b1 := b) (b2 := b) ?_ ?_ ⟨_, b, y, rfl, ?_⟩
  · unfold f_X9_file
    simp only [ii_lits]
    rw [g0_2, ck_mk k0, pair18 hN hRY.1, b2_mk, if_neg cp, if_neg (by decide), g0_2, gI_mk k0, o7, if_pos (by rw [ii_lt (by omega) (by omega) (by omega) (by omega)]; omega), g0_3, g0_2, ck_mk zk_23, crem_mk hN hn ht p0 p1, b1_mk, g0_2, gI_mk k0, (w _).2.2.2.2.2.2.2.1, ii_add, pI_mk k0, (u _ _).2.2.2.2.2.2.2.1, g0_2, gI_mk k0, (w _).2.2.2.2.1, rs_ne _ _ (by omega), ii_add, pI_mk k0, (u _ _).2.2.2.2.1, g0_2, gI_mk k0, (w _).2.2.2.2.2.2.2.1, rs_ne _ _ (by omega), rs_same, hH]
  · show f_X10_file (mk H b) 205 = _
    unfold f_X10_file
    simp only [ii_lits]
    rw [ck_mk zk_205, mp, b2_mk, if_neg cp, if_neg (by decide), gW, rdw, oH 206 24 (by omega), e24, o7, if_neg (by rw [ii_eq (by omega) (by omega) (by omega) (by omega)]; exact cg), ck_mk zk_205, mr, b1_mk, gW, rdM (j := 24) (by omega) (by omega) (by omega), hm25 24 (by omega) (by omega), ii_add, wrM (j := 24) (by omega) (by omega) (by omega), gW, rdM (j := 20) (by omega) (by omega) (by omega), rs_ne _ _ (by omega), hm25 20 (by omega) (by omega), ii_add, wrM (j := 20) (by omega) (by omega) (by omega), gW, rdM (j := 24) (by omega) (by omega) (by omega), rs_ne _ _ (by omega), rs_same]
  · rw [← hH]
    exact Rel_up (deed hR0 hn ht hold (g' := 891 * (k + 1 : Nat)) (by omega) (by omega) (Ok_rs (Ok_rs hN (Vb_rs (g' := 891 * k) hN.1 hy4 (by omega) (by omega) (by omega) (by omega) (by omega) (by omega) (by omega)) (by omega)) (Vb_rs (Vb_rs (g' := 891 * k) hN.1 hy4 (by omega) (by omega) (by omega) (by omega) (by omega) (by omega) (by omega)) hy4 (by omega) (by omega) (by omega) (by omega) (by omega) (by omega) (by omega)) (by omega))) (by omega)
theorem arm13 : ps_arm13 Inv := by
  rintro k M x z hk ⟨h, b, y, rfl, hR⟩
  have hR0 := hR
  obtain ⟨P, rfl, x1, x2⟩ := ex_ii x
  obtain ⟨V, rfl, v1, v2⟩ := ex_ii z
  obtain ⟨hRY, hN, hS, hseen, hbook, htext, hF, hI0, hI1, hP⟩ := hR
  have hb := wk16_b hN hRY.1
  obtain ⟨n, t, hn, ht, p0, p26, p1, hold⟩ := hP
  have hy4 := hRY.1.2.1.2
  obtain ⟨e16, e17, e18, e19, e20, e21, e22, e23, e24, erow⟩ := RN_eq hN
  obtain ⟨o0, o1, o2, o3, o4, o5, o6, o7, o8⟩ := wk_or h 18
  obtain ⟨hvd, hvs, hva, hvg, hvw, hvt, hvp⟩ := hN.1
  have k0 := iw_18.1
  have w := putW_r (crem h n t) 18
  have u := uI_w (crem h n t) 18
  obtain ⟨z0', z1', z2', z3', z4', l1, l2, l3, l4, r9, r10, r11, r12, -⟩ := iw_18
  have min_ : ∀ H : zM, f_X10_in (mk H b) ((ii V).toInt64) (1 : Int64) (20 : Int64) = some (ii (if 1 ≤ V ∧ V ≤ 20 then 1 else 0), mk H b) := fun H => by
    rw [ii_l64 v1 v2, show (1 : Int64) = l64 1 by decide, show (20 : Int64) = l64 20 by decide, in_mk (by omega) (by omega) (by omega) (by omega) (by omega) (by omega)]
  have win_ : ∀ H : zM, f_X9_isWithin (mk H b) (ii V) (1 : Int32) (20 : Int32) = some (ii (if 1 ≤ V ∧ V ≤ 20 then 1 else 0), mk H b) := fun H => by
    rw [show (1 : Int32) = ii 1 by decide, show (20 : Int32) = ii 20 by decide, within_mk (by omega) (by omega) (by omega) (by omega) (by omega) (by omega)]
  by_cases c : 0 ≤ P ∧ P < y 0 1
  · have e := erow P.toNat (by omega) (by omega)
    by_cases cv : 1 ≤ V ∧ V ≤ 20
    · have hidx : (P : Int) = (((P.toNat : Nat)) : Int) := by omega
      have hw_ : h 19 P.toNat = ii (wk h 18 (P.toNat)) := by
        have := putW_wk h 18
        rw [← this, putW_1 _ _ _ (by omega), this]
      have hbd : -100 ≤ wk h 18 (P.toNat) ∧ wk h 18 (P.toNat) ≤ 100 := by have := hvp P.toNat (by omega); omega
      have rdw : ∀ (f : Int32 → Option (Int32 × ps_M)) (H : zM), ps_aI (mk H b) 206 (ii P) f = f (H 206 (P.toNat)) := fun f H => by rw [aI_mk zk_206 (by omega) (by rw [zl_206]; omega) (by rw [zl_206]; omega), show (P : Int).toNat = P.toNat by omega]
      by_cases ce : wk h 18 (P.toNat) = V
      · refine eqv_of (r := ii V) (h1 := h) (h2 := h) (b1 := b) (b2 := b) ?_ ?_ (inv_of hR0)
        · unfold f_X9_wish f_X9_changeRow
          rw [g0_0, ck_mk zk_1, hasPerson_mk x1 x2 hRY.1 hRY.2.1.2.1, b2_mk, if_pos c, if_neg (by decide), win_, b2_mk, if_pos cv, if_neg (by decide), g0_2, gR_mk k0 (r9 b), ck_mk zk_0, at_mk z1' c.1 (by omega) (by omega), b2_mk, hw_, ce, if_pos rfl]
          rfl
        · show f_X10_wish (mk h b) 205 (ii P) (ii V) = _
          unfold f_X10_wish f_X10_become f_X10_become_b16
          simp only [ii_lits, ii_add]
          rw [ck_mk zk_205, isPerson_mk x1 x2 hRY.1 hRY.2.2.2.1, b2_mk, if_pos c, if_neg (by decide), min_, b2_mk, if_pos cv, if_neg (by decide), ck_mk zk_205, gW, rdw, e.1, hw_, ce, if_pos rfl, gW, xI_mk zk_206 (by omega) (by rw [zl_206]; omega) (by rw [zl_206]; omega), show (P : Int).toNat = P.toNat by omega, uI_id (by rw [e.1, hw_, ce])]
          rfl
      generalize hH : putW (crem h n t) 18 (rs (wk h 18) (P.toNat) V) = H
      have oH : ∀ c k, c < 18 ∨ 174 < c → H c k = h c k := fun c k q => by rw [← hH, putW_o _ _ _ (by omega), crem_o (by omega) ht]
      have hYmH : Ym H y := Ym_c hRY.2.2 (fun c k q => oH c k (by omega))
      have em : mrow H 0 = mrow h 0 := by funext j; exact mrow_c (oH _ _ (by omega))
      have hm25 : ∀ j, 16 ≤ j → j < 25 → mrow h 0 j = wk h 18 j := fun j a b => hN.2.2.1 j a b
      have mp := mpair (b := b) hN hRY.1 (H := H) (fun k _ => oH 206 k (by omega))
      have mr := mrem_mk (b := b) hn (show H 205 26 = ii n by rw [oH 205 26 (by omega)]; exact p26)
      rw [em] at mr
      refine eqv_of (r := ii (wk h 18 (P.toNat))) (h1 := H) (h2 := putM (mrem H n) 0 (rs (mrow h 0) (P.toNat) V)) (b1 := b) (b2 := b) ?_ ?_ ⟨_, b, y, rfl, ?_⟩
      · unfold f_X9_wish f_X9_changeRow f_X9_changeRow_b30
        rw [g0_0, ck_mk zk_1, hasPerson_mk x1 x2 hRY.1 hRY.2.1.2.1, b2_mk, if_pos c, if_neg (by decide), win_, b2_mk, if_pos cv, if_neg (by decide), g0_2, gR_mk k0 (r9 b), ck_mk zk_0, at_mk z1' c.1 (by omega) (by omega), b2_mk, hw_, if_neg (by rw [ii_eq (by omega) (by omega) (by omega) (by omega)]; exact ce), g0_3, g0_2, ck_mk zk_23, crem_mk hN hn ht p0 p1, b1_mk, put_mk z1' c.1 (by omega) (by omega), b1_mk, uI_1 _ 18 _ _ (by omega), hH]
        rfl
      · show f_X10_wish (mk H b) 205 (ii P) (ii V) = _
        unfold f_X10_wish f_X10_become f_X10_become_b16
        simp only [ii_lits, ii_add]
        rw [ck_mk zk_205, isPerson_mk x1 x2 hRY.1 hYmH.2.1, b2_mk, if_pos c, if_neg (by decide), min_, b2_mk, if_pos cv, if_neg (by decide), ck_mk zk_205, gW, rdw, oH 206 _ (by omega), e.1, hw_, if_neg (by rw [ii_eq (by omega) (by omega) (by omega) (by omega)]; exact ce), ck_mk zk_205, mr, b1_mk, gW, wrM (j := P.toNat) (by omega) (by omega) (by omega)]
        rfl
      · rw [← hH]
        exact Rel_up (deed hR0 hn ht hold (g' := 891 * (k + 1 : Nat)) (by omega) (by omega) (Ok_rs hN (Vb_rs hN.1 hy4 (by omega) (by omega) (by omega) (by omega) (by omega) (by omega) (by omega)) (by omega))) (by omega)
    · refine eqv_of (r := ii (-1000000002)) (h1 := h) (h2 := h) (b1 := b) (b2 := b) ?_ ?_ (inv_of hR0)
      · unfold f_X9_wish
        rw [g0_0, ck_mk zk_1, hasPerson_mk x1 x2 hRY.1 hRY.2.1.2.1, b2_mk, if_pos c, if_neg (by decide), win_, b2_mk, if_neg cv, if_pos (by decide)]
        rfl
      · show f_X10_wish (mk h b) 205 (ii P) (ii V) = _
        unfold f_X10_wish
        rw [ck_mk zk_205, isPerson_mk x1 x2 hRY.1 hRY.2.2.2.1, b2_mk, if_pos c, if_neg (by decide), min_, b2_mk, if_neg cv, if_pos (by decide)]
        rfl
  · refine eqv_of (r := ii (-1000000001)) (h1 := h) (h2 := h) (b1 := b) (b2 := b) ?_ ?_ (inv_of hR0)
    · unfold f_X9_wish
      rw [g0_0, ck_mk zk_1, hasPerson_mk x1 x2 hRY.1 hRY.2.1.2.1, b2_mk, if_neg c, if_pos (by decide)]
      rfl
    · show f_X10_wish (mk h b) 205 (ii P) (ii V) = _
      unfold f_X10_wish
      rw [ck_mk zk_205, isPerson_mk x1 x2 hRY.1 hRY.2.2.2.1, b2_mk, if_neg c, if_pos (by decide)]
      rfl
theorem arm14 : ps_arm14 Inv := by
  rintro k M x z hk ⟨h, b, y, rfl, hR⟩
  have hR0 := hR
  obtain ⟨P, rfl, x1, x2⟩ := ex_ii x
  obtain ⟨V, rfl, v1, v2⟩ := ex_ii z
  obtain ⟨hRY, hN, hS, hseen, hbook, htext, hF, hI0, hI1, hP⟩ := hR
  have hb := wk16_b hN hRY.1
  obtain ⟨n, t, hn, ht, p0, p26, p1, hold⟩ := hP
  have hy4 := hRY.1.2.1.2
  obtain ⟨e16, e17, e18, e19, e20, e21, e22, e23, e24, erow⟩ := RN_eq hN
  obtain ⟨o0, o1, o2, o3, o4, o5, o6, o7, o8⟩ := wk_or h 18
  obtain ⟨hvd, hvs, hva, hvg, hvw, hvt, hvp⟩ := hN.1
  have k0 := iw_18.1
  have w := putW_r (crem h n t) 18
  have u := uI_w (crem h n t) 18
  obtain ⟨z0', z1', z2', z3', z4', l1, l2, l3, l4, r9, r10, r11, r12, -⟩ := iw_18
  have min_ : ∀ H : zM, f_X10_in (mk H b) ((ii V).toInt64) (0 : Int64) (9 : Int64) = some (ii (if 0 ≤ V ∧ V ≤ 9 then 1 else 0), mk H b) := fun H => by
    rw [ii_l64 v1 v2, show (0 : Int64) = l64 0 by decide, show (9 : Int64) = l64 9 by decide, in_mk (by omega) (by omega) (by omega) (by omega) (by omega) (by omega)]
  have win_ : ∀ H : zM, f_X9_isWithin (mk H b) (ii V) (0 : Int32) (9 : Int32) = some (ii (if 0 ≤ V ∧ V ≤ 9 then 1 else 0), mk H b) := fun H => by
    rw [show (0 : Int32) = ii 0 by decide, show (9 : Int32) = ii 9 by decide, within_mk (by omega) (by omega) (by omega) (by omega) (by omega) (by omega)]
  by_cases c : 0 ≤ P ∧ P < y 0 1
  · have e := erow P.toNat (by omega) (by omega)
    by_cases cv : 0 ≤ V ∧ V ≤ 9
    · have hidx : ((12 + P) : Int) = (((12 + P.toNat : Nat)) : Int) := by omega
      have hw_ : h 20 P.toNat = ii (wk h 18 (12 + P.toNat)) := by
        have := putW_wk h 18
        rw [← this, putW_2 _ _ _ (by omega), this]
      have hbd : -100 ≤ wk h 18 (12 + P.toNat) ∧ wk h 18 (12 + P.toNat) ≤ 100 := by have := hvp P.toNat (by omega); omega
      have rdw : ∀ (f : Int32 → Option (Int32 × ps_M)) (H : zM), ps_aI (mk H b) 206 (ii (12 + P)) f = f (H 206 (12 + P.toNat)) := fun f H => by rw [aI_mk zk_206 (by omega) (by rw [zl_206]; omega) (by rw [zl_206]; omega), show ((12 + P) : Int).toNat = 12 + P.toNat by omega]
      by_cases ce : wk h 18 (12 + P.toNat) = V
      · refine eqv_of (r := ii V) (h1 := h) (h2 := h) (b1 := b) (b2 := b) ?_ ?_ (inv_of hR0)
        · unfold f_X9_habit f_X9_changeRow
          rw [g0_0, ck_mk zk_1, hasPerson_mk x1 x2 hRY.1 hRY.2.1.2.1, b2_mk, if_pos c, if_neg (by decide), win_, b2_mk, if_pos cv, if_neg (by decide), g0_2, gR_mk k0 (r10 b), ck_mk zk_0, at_mk z2' c.1 (by omega) (by omega), b2_mk, hw_, ce, if_pos rfl]
          rfl
        · show f_X10_habit (mk h b) 205 (ii P) (ii V) = _
          unfold f_X10_habit f_X10_become f_X10_become_b16
          simp only [ii_lits, ii_add]
          rw [ck_mk zk_205, isPerson_mk x1 x2 hRY.1 hRY.2.2.2.1, b2_mk, if_pos c, if_neg (by decide), min_, b2_mk, if_pos cv, if_neg (by decide), ck_mk zk_205, gW, rdw, e.2.2.2, hw_, ce, if_pos rfl, gW, xI_mk zk_206 (by omega) (by rw [zl_206]; omega) (by rw [zl_206]; omega), show ((12 + P) : Int).toNat = 12 + P.toNat by omega, uI_id (by rw [e.2.2.2, hw_, ce])]
          rfl
      generalize hH : putW (crem h n t) 18 (rs (wk h 18) (12 + P.toNat) V) = H
      have oH : ∀ c k, c < 18 ∨ 174 < c → H c k = h c k := fun c k q => by rw [← hH, putW_o _ _ _ (by omega), crem_o (by omega) ht]
      have hYmH : Ym H y := Ym_c hRY.2.2 (fun c k q => oH c k (by omega))
      have em : mrow H 0 = mrow h 0 := by funext j; exact mrow_c (oH _ _ (by omega))
      have hm25 : ∀ j, 16 ≤ j → j < 25 → mrow h 0 j = wk h 18 j := fun j a b => hN.2.2.1 j a b
      have mp := mpair (b := b) hN hRY.1 (H := H) (fun k _ => oH 206 k (by omega))
      have mr := mrem_mk (b := b) hn (show H 205 26 = ii n by rw [oH 205 26 (by omega)]; exact p26)
      rw [em] at mr
      refine eqv_of (r := ii (wk h 18 (12 + P.toNat))) (h1 := H) (h2 := putM (mrem H n) 0 (rs (mrow h 0) (12 + P.toNat) V)) (b1 := b) (b2 := b) ?_ ?_ ⟨_, b, y, rfl, ?_⟩
      · unfold f_X9_habit f_X9_changeRow f_X9_changeRow_b30
        rw [g0_0, ck_mk zk_1, hasPerson_mk x1 x2 hRY.1 hRY.2.1.2.1, b2_mk, if_pos c, if_neg (by decide), win_, b2_mk, if_pos cv, if_neg (by decide), g0_2, gR_mk k0 (r10 b), ck_mk zk_0, at_mk z2' c.1 (by omega) (by omega), b2_mk, hw_, if_neg (by rw [ii_eq (by omega) (by omega) (by omega) (by omega)]; exact ce), g0_3, g0_2, ck_mk zk_23, crem_mk hN hn ht p0 p1, b1_mk, put_mk z2' c.1 (by omega) (by omega), b1_mk, uI_2 _ 18 _ _ (by omega), hH]
        rfl
      · show f_X10_habit (mk H b) 205 (ii P) (ii V) = _
        unfold f_X10_habit f_X10_become f_X10_become_b16
        simp only [ii_lits, ii_add]
        rw [ck_mk zk_205, isPerson_mk x1 x2 hRY.1 hYmH.2.1, b2_mk, if_pos c, if_neg (by decide), min_, b2_mk, if_pos cv, if_neg (by decide), ck_mk zk_205, gW, rdw, oH 206 _ (by omega), e.2.2.2, hw_, if_neg (by rw [ii_eq (by omega) (by omega) (by omega) (by omega)]; exact ce), ck_mk zk_205, mr, b1_mk, gW, wrM (j := 12 + P.toNat) (by omega) (by omega) (by omega)]
        rfl
      · rw [← hH]
        exact Rel_up (deed hR0 hn ht hold (g' := 891 * (k + 1 : Nat)) (by omega) (by omega) (Ok_rs hN (Vb_rs hN.1 hy4 (by omega) (by omega) (by omega) (by omega) (by omega) (by omega) (by omega)) (by omega))) (by omega)
    · refine eqv_of (r := ii (-1000000002)) (h1 := h) (h2 := h) (b1 := b) (b2 := b) ?_ ?_ (inv_of hR0)
      · unfold f_X9_habit
        rw [g0_0, ck_mk zk_1, hasPerson_mk x1 x2 hRY.1 hRY.2.1.2.1, b2_mk, if_pos c, if_neg (by decide), win_, b2_mk, if_neg cv, if_pos (by decide)]
        rfl
      · show f_X10_habit (mk h b) 205 (ii P) (ii V) = _
        unfold f_X10_habit
        rw [ck_mk zk_205, isPerson_mk x1 x2 hRY.1 hRY.2.2.2.1, b2_mk, if_pos c, if_neg (by decide), min_, b2_mk, if_neg cv, if_pos (by decide)]
        rfl
  · refine eqv_of (r := ii (-1000000001)) (h1 := h) (h2 := h) (b1 := b) (b2 := b) ?_ ?_ (inv_of hR0)
    · unfold f_X9_habit
      rw [g0_0, ck_mk zk_1, hasPerson_mk x1 x2 hRY.1 hRY.2.1.2.1, b2_mk, if_neg c, if_pos (by decide)]
      rfl
    · show f_X10_habit (mk h b) 205 (ii P) (ii V) = _
      unfold f_X10_habit
      rw [ck_mk zk_205, isPerson_mk x1 x2 hRY.1 hRY.2.2.2.1, b2_mk, if_neg c, if_pos (by decide)]
      rfl
