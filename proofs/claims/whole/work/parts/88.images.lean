/-! log, undo, images -/
theorem wk_wk (h : zM) (a a2 : Nat) : ∀ i, i < 25 → wk (putW h a (wk h a2)) a i = wk h a2 i := by
  intro i hi
  rw [wk_put _ _ _ i hi]
  have h3 : ∃ z : Int32, wk h a2 i = z.toInt := by
    unfold wk
    repeat' split
    all_goals exact ⟨_, rfl⟩
  obtain ⟨z, hz⟩ := h3
  rw [hz, ii_toInt]
theorem Ok_25 {y : Nat → Nat → Int} {g : Int} {r r2 m m2 : Nat → Int} (h : Ok y g r m) (hn : y 0 1 ≤ 4) (hr : ∀ i, i < 25 → r2 i = r i) (hm : ∀ i, i < 25 → m2 i = m i) : Ok y g r2 m2 :=
  Ok_r h ⟨fun j _ b => hr j b, fun p hp => ⟨hr _ (by omega), hr _ (by omega), hr _ (by omega), hr _ (by omega)⟩⟩ ⟨fun j _ b => hm j b, fun p hp => ⟨hm _ (by omega), hm _ (by omega), hm _ (by omega), hm _ (by omega)⟩⟩
theorem RP_zero {h : zM} {y : Nat → Nat → Int} {g : Int} {t : Nat} (ht : t < 30) (h0 : h 23 0 = ii 0) (h1 : h 23 1 = ii t) (h2 : h 205 26 = ii 0) : RP h y g := ⟨0, t, by omega, ht, h0, h2, h1, fun j hj => by omega⟩
theorem refTwo {h : zM} {b : Bool} {y : Nat → Nat → Int} {p q : Int} (hRY : RY h y) (x1 : -2147483648 ≤ p) (x2 : p < 2147483648) (z1 : -2147483648 ≤ q) (z2 : q < 2147483648) : ∃ t : Int, f_X9_refusalOfTwo (mk h b) 0 (ii p) (ii q) = some (ii t, mk h b) ∧ ((t = -1000000001 ∧ ¬ two y p q) ∨ (t = -1000000003 ∧ two y p q ∧ y 0 0 = 0) ∨ (t = 0 ∧ two y p q ∧ 0 < y 0 0)) := by
  obtain ⟨hy, hYd, hYm⟩ := hRY
  have hL := hy.1
  obtain ⟨t, ht, hc⟩ := hasTwo_mk (h := h) (b := b) x1 x2 z1 z2 hy hYd.2.1
  unfold f_X9_refusalOfTwo
  rw [g0_0, ck_mk zk_1, ht, b2_mk]
  rcases hc with ⟨rfl, c⟩ | ⟨rfl, c⟩
  · rw [if_neg (by decide), g0_0, gI_mk zk_1, hYd.1]
    by_cases c0 : y 0 0 = 0
    · exact ⟨-1000000003, by rw [c0, if_pos (by decide)]; rfl, Or.inr (Or.inl ⟨rfl, c, c0⟩)⟩
    · exact ⟨0, by rw [if_neg (by rw [ii_lits.1, ii_eq (by omega) (by omega) (by omega) (by omega)]; exact c0)]; rfl, Or.inr (Or.inr ⟨rfl, c, by omega⟩)⟩
  · exact ⟨-1000000001, by rw [if_pos (by decide)]; rfl, Or.inl ⟨rfl, c⟩⟩
theorem arm6 : ps_arm6 Inv := by
  rintro k M x z hk ⟨h, b, y, rfl, hR⟩
  have hR0 := hR
  obtain ⟨P, rfl, x1, x2⟩ := ex_ii x
  obtain ⟨Q, rfl, z1, z2⟩ := ex_ii z
  obtain ⟨t0, hs, hcase⟩ := refTwo (b := b) hR.1 x1 x2 z1 z2
  obtain ⟨hRY, hN, hS, hseen, hbook, htext, hF, hI0, hI1, hP⟩ := hR
  have hb := wk16_b hN hRY.1
  obtain ⟨n, t, hn, ht, p0, p26, p1, hold⟩ := hP
  have hy4 := hRY.1.2.1.2
  obtain ⟨e16, e17, e18, e19, e20, e21, e22, e23, e24, erow⟩ := RN_eq hN
  obtain ⟨o0, o1, o2, o3, o4, o5, o6, o7, o8⟩ := wk_or h 18
  obtain ⟨hvd, hvs, hva, hvg, hvw, hvt, hvp⟩ := hN.1
  have k0 := iw_18.1
  have w := putW_r (crem h n t) 18
  have u := uI_w (crem h n t) 18
  have hL0 := hRY.1.1
  rcases hcase with ⟨rfl, c⟩ | ⟨rfl, c, c0⟩ | ⟨rfl, c, hL⟩
  · refine eqv_of (r := ii (-1000000001)) (h1 := h) (h2 := h) (b1 := b) (b2 := b) ?_ ?_ (inv_of hR0)
    · unfold f_X9_log
      rw [ck_mk zk_0, hs, b2_mk, if_neg (by decide)]
    · show f_X10_log (mk h b) 205 (ii P) (ii Q) = _
      unfold f_X10_log
      rw [ck_mk zk_205, isPerson_mk x1 x2 hRY.1 hRY.2.2.2.1, b2_mk]
      unfold two at c
      by_cases c1 : 0 ≤ P ∧ P < y 0 1
      · rw [if_pos c1, if_neg (by decide), ck_mk zk_205, isPerson_mk z1 z2 hRY.1 hRY.2.2.2.1, b2_mk]
        by_cases c2 : 0 ≤ Q ∧ Q < y 0 1
        · rw [if_pos c2, if_neg (by decide), if_pos (by rw [ii_eq x1 x2 z1 z2]; omega)]
          rfl
        · rw [if_neg c2, if_pos (by decide)]
          rfl
      · rw [if_neg c1, if_pos (by decide)]
        rfl
  · refine eqv_of (r := ii (-1000000003)) (h1 := h) (h2 := h) (b1 := b) (b2 := b) ?_ ?_ (inv_of hR0)
    · unfold f_X9_log
      rw [ck_mk zk_0, hs, b2_mk, if_neg (by decide)]
    · show f_X10_log (mk h b) 205 (ii P) (ii Q) = _
      unfold f_X10_log
      rw [ck_mk zk_205, isPerson_mk x1 x2 hRY.1 hRY.2.2.2.1, b2_mk, if_pos c.1, if_neg (by decide), ck_mk zk_205, isPerson_mk z1 z2 hRY.1 hRY.2.2.2.1, b2_mk, if_pos c.2.1, if_neg (by decide), if_neg (by rw [ii_eq x1 x2 z1 z2]; exact c.2.2), gI_mk zk_205, hRY.2.2.1, c0, if_pos (by decide)]
      rfl
  · have o : ∀ c k, ¬ (18 ≤ c ∧ c ≤ 22) → ¬ (c = 23 ∧ k = 0) → ¬ (c = 205 ∧ k = 26) → ¬ (c = 206 ∧ k < 25) → ps_uI (putM (ps_uI (putW h 18 (nlog (wk h 18) P Q)) 23 0 (ii 0)) 0 (nlog (mrow h 0) P Q)) 205 26 (ii 0) c k = h c k := fun c k a1 a2 a3 a4 => by rw [uI_o a3, putM_o _ _ (by omega), uI_o a2, putW_o _ _ _ (by omega)]
    have em : putM (ps_uI (putW h 18 (nlog (wk h 18) P Q)) 23 0 (ii 0)) 0 (mrow h 0) = ps_uI (putW h 18 (nlog (wk h 18) P Q)) 23 0 (ii 0) := by
      have : mrow (ps_uI (putW h 18 (nlog (wk h 18) P Q)) 23 0 (ii 0)) 0 = mrow h 0 := by funext j; exact mrow_c (by rw [uI_o (by omega), putW_o _ _ _ (by omega)])
      rw [← this, putM_mrow]
    have eo : ∀ c k, ¬ (18 ≤ c ∧ c ≤ 22) → ¬ (c = 23 ∧ k = 0) → ps_uI (putW h 18 (nlog (wk h 18) P Q)) 23 0 (ii 0) c k = h c k := fun c k a1 a2 => by rw [uI_o a2, putW_o _ _ _ (by omega)]
    refine eqv_of (r := ii P) (h1 := ps_uI (putW h 18 (nlog (wk h 18) P Q)) 23 0 (ii 0)) (h2 := ps_uI (putM (ps_uI (putW h 18 (nlog (wk h 18) P Q)) 23 0 (ii 0)) 0 (nlog (mrow h 0) P Q)) 205 26 (ii 0)) (b1 := b) (b2 := b) ?_ ?_ ⟨_, b, y, rfl, Rel_up (g := 891 * k) ?_ (by omega)⟩
    · unfold f_X9_log f_X2_clear
      rw [ck_mk zk_0, hs, b2_mk, if_pos (by decide), g0_2, ck_mk k0, show mk h b = mk (putW h 18 (wk h 18)) b by rw [putW_wk], startLog_mk iw_18, b1_mk, g0_3, ck_mk zk_23, ii_lits.1, pI_mk zk_23, b1_mk]
    · show f_X10_log (mk (ps_uI (putW h 18 (nlog (wk h 18) P Q)) 23 0 (ii 0)) b) 205 (ii P) (ii Q) = _
      unfold f_X10_log
      rw [ck_mk zk_205, isPerson_mk x1 x2 hRY.1 (by rw [eo _ _ (by omega) (by omega)]; exact hRY.2.2.2.1), b2_mk, if_pos c.1, if_neg (by decide), ck_mk zk_205, isPerson_mk z1 z2 hRY.1 (by rw [eo _ _ (by omega) (by omega)]; exact hRY.2.2.2.1), b2_mk, if_pos c.2.1, if_neg (by decide), if_neg (by rw [ii_eq x1 x2 z1 z2]; exact c.2.2), gI_mk zk_205, eo 205 2 (by omega) (by omega), hRY.2.2.1, if_neg (by rw [ii_lits.1, ii_eq (by omega) (by omega) (by omega) (by omega)]; omega), ck_mk zk_205]
      have hbeg := mbegin_mk (h := ps_uI (putW h 18 (nlog (wk h 18) P Q)) 23 0 (ii 0)) (b := b) (x := 0) (r := mrow h 0) (p := P) (q := Q) (by omega)
      rw [em, show ((0 : Nat) : Int) = 0 from rfl] at hbeg
      rw [ii_lits.1, hbeg, b1_mk, pI_mk zk_205]
    · refine ⟨RY_c hRY (fun c k q => o c k (by omega) (by omega) (by omega) (by omega)), ?_, RS_c hS (fun c k q => o c k (by omega) (by omega) (by omega) (by omega)), Ls_c hseen (fun c k q => o c k (by omega) (by omega) (by omega) (by omega)), Ls_c hbook (fun c k q => o c k (by omega) (by omega) (by omega) (by omega)), Ls_c htext (fun c k q => o c k (by omega) (by omega) (by omega) (by omega)), RF_c hF (fun c k q => o c k (by omega) (by omega) (by omega) (by omega)), RI_c hy4 hI0 (fun c k q => o c k (by omega) (by omega) (by omega) (by omega)), RI_c hy4 hI1 (fun c k q => o c k (by omega) (by omega) (by omega) (by omega)), RP_zero ht ?_ ?_ ?_⟩
      · unfold RN
        have e1 : wk (ps_uI (putM (ps_uI (putW h 18 (nlog (wk h 18) P Q)) 23 0 (ii 0)) 0 (nlog (mrow h 0) P Q)) 205 26 (ii 0)) 18 = wk (putW h 18 (nlog (wk h 18) P Q)) 18 := wk_c (fun c k a b => by rw [uI_o (by omega), putM_o _ _ (by omega), uI_o (by omega)])
        rw [e1]
        refine Ok_25 (Ok_put (Ok.log hRY.1 hN (by omega) hL c.1 c.2.1 c.2.2) hRY.1 (by omega) h (ps_uI (putW h 18 (nlog (wk h 18) P Q)) 23 0 (ii 0)) 18 0) hy4 (fun _ _ => rfl) (fun j hj => mrow_c (by rw [uI_o (by omega)]))
      · rw [uI_o (by omega), putM_o _ _ (by omega), uI_s]
      · rw [o 23 1 (by omega) (by omega) (by omega) (by omega)]
        exact p1
      · rw [uI_s]
theorem nn_mk {α : Type} {r : Nat} {A : Option α} {f : Nat → Option α} : ps_nn (r + 1) A f = f r := rfl
theorem cnt_eq {n m : Nat} (h : ii (n : Int) = ii (m : Int)) (h1 : n ≤ 1000) (h2 : m ≤ 1000) : n = m := by
  have := (ii_eq (x := (n : Int)) (y := (m : Int)) (by omega) (by omega) (by omega) (by omega)).mp h
  omega
theorem arm16 : ps_arm16 Inv := by
  rintro k M x hk ⟨h, b, y, rfl, hR⟩
  have hR0 := hR
  obtain ⟨X, rfl, x1, x2⟩ := ex_ii x
  obtain ⟨hRY, hN, hS, hseen, hbook, htext, hF, hI0, hI1, hP⟩ := hR
  have hb := wk16_b hN hRY.1
  obtain ⟨n, t, hn, ht, p0, p26, p1, hold⟩ := hP
  have hy4 := hRY.1.2.1.2
  obtain ⟨e16, e17, e18, e19, e20, e21, e22, e23, e24, erow⟩ := RN_eq hN
  obtain ⟨o0, o1, o2, o3, o4, o5, o6, o7, o8⟩ := wk_or h 18
  obtain ⟨hvd, hvs, hva, hvg, hvw, hvt, hvp⟩ := hN.1
  have k0 := iw_18.1
  have w := putW_r (crem h n t) 18
  have u := uI_w (crem h n t) 18
  have min_ : ∀ H : zM, f_X10_in (mk H b) ((ii X).toInt64) (1 : Int64) (30 : Int64) = some (ii (if 1 ≤ X ∧ X ≤ 30 then 1 else 0), mk H b) := fun H => by
    rw [ii_l64 x1 x2, show (1 : Int64) = l64 1 by decide, show (30 : Int64) = l64 30 by decide, in_mk (by omega) (by omega) (by omega) (by omega) (by omega) (by omega)]
  have win_ : ∀ H : zM, f_X9_isWithin (mk H b) (ii X) (1 : Int32) (30 : Int32) = some (ii (if 1 ≤ X ∧ X ≤ 30 then 1 else 0), mk H b) := fun H => by
    rw [show (1 : Int32) = ii 1 by decide, show (30 : Int32) = ii 30 by decide, within_mk (by omega) (by omega) (by omega) (by omega) (by omega) (by omega)]
  by_cases c : 1 ≤ X ∧ X ≤ 30
  · by_cases cn : X ≤ n
    · obtain ⟨d, hd⟩ : ∃ d : Nat, X = d := ⟨X.toNat, by omega⟩
      subst hd
      have hb30 : (t + 30 - d) % 30 < 30 := Nat.mod_lt _ (by omega)
      have hback := hold (n - d) (by omega)
      rw [show (t + 30 - n + (n - d)) % 30 = (t + 30 - d) % 30 by congr 1; omega] at hback
      generalize hs : (t + 30 - d) % 30 = s at hb30 hback
      have e2 : (ii (t : Int) - ii (d : Int) + ii 30) - (ii (t : Int) - ii (d : Int) + ii 30) / ii 30 * ii 30 = ii (s : Int) := by
        rw [ii_sub, ii_add, show (t : Int) - (d : Int) + 30 = ((t + 30 - d : Nat) : Int) by omega, mod30 _ (by omega), hs]
      refine eqv_of (r := ii (wk h (25 + 5 * s) 20)) (h1 := ps_uI (ps_uI (putW h 18 (wk h (25 + 5 * s))) 23 1 (ii s)) 23 0 (ii ((n - d : Nat) : Int))) (h2 := ps_uI (mcp (ps_uI (ps_uI (ps_uI (putW h 18 (wk h (25 + 5 * s))) 23 1 (ii s)) 23 0 (ii ((n - d : Nat) : Int))) 205 26 (ii ((n - d : Nat) : Int))) (112 + 28 * (n - d)) 0 28) 206 25 (h 206 25)) (b1 := b) (b2 := b) ?_ ?_ ⟨_, b, y, rfl, Rel_up (g := 891 * k) ?_ (by omega)⟩
      · unfold f_X9_undo f_X2_bringBack
        simp only [show (30 : Int32) = ii 30 by decide]
        rw [show (30 : Int32) = ii 30 by decide] at win_
        rw [win_, b2_mk, if_pos c, if_neg (by decide), g0_3, gI_mk zk_23, p0, if_pos (by rw [ii_le (by omega) (by omega) (by omega) (by omega)]; exact cn), g0_3, g0_2, ck_mk zk_23, gI_mk zk_23, p1, e2, v_mk, ck_mk zk_23, placeAt_mk hb30, b2_mk]
        have hw8 := hback.1.2.2.2.2.1
        rw [nn_mk, ck_mk k0, become_mk iw_18 (iw_r hb30) (by omega) hw8, b1_mk, pI_mk zk_23, gI_mk zk_23, uI_o (by omega), putW_o _ _ _ (by omega), p0, ii_sub, pI_mk zk_23]
        show ps_b1 (some (mk (ps_uI (ps_uI (putW h 18 (wk h (25 + 5 * s))) 23 1 (ii s)) 23 0 (ii ((n : Int) - (d : Int)))) b)) _ = _
        rw [b1_mk, g0_2, gI_mk k0, uI_o (by omega), uI_o (by omega), (putW_r h 18 _).2.2.2.2.1, show (n : Int) - (d : Int) = ((n - d : Nat) : Int) by omega]
      · show f_X10_undo (mk (ps_uI (ps_uI (putW h 18 (wk h (25 + 5 * s))) 23 1 (ii s)) 23 0 (ii ((n - d : Nat) : Int))) b) 205 (ii (d : Int)) = _
        have o : ∀ c k, (c < 18 ∨ 23 < c) → ps_uI (ps_uI (putW h 18 (wk h (25 + 5 * s))) 23 1 (ii s)) 23 0 (ii ((n - d : Nat) : Int)) c k = h c k := fun c k a => by rw [uI_o (by omega), uI_o (by omega), putW_o _ _ _ (by omega)]
        generalize hH : ps_uI (ps_uI (putW h 18 (wk h (25 + 5 * s))) 23 1 (ii s)) 23 0 (ii ((n - d : Nat) : Int)) = H at o
        unfold f_X10_undo
        simp only [ii_lits]
        rw [min_, b2_mk, if_pos c, if_neg (by decide), gI_mk zk_205, o 205 26 (by omega), p26, if_pos (by rw [ii_le (by omega) (by omega) (by omega) (by omega)]; exact cn), gI_mk zk_205, o 205 26 (by omega), p26, ii_sub, pI_mk zk_205, gW, aI_mk zk_206 (by omega) (by rw [zl_206]; omega) (by rw [zl_206]; omega), gI_mk zk_205, uI_s, ck_mk zk_205]
        simp only [ii_mul, ii_add]
        rw [show (112 : Int) + 28 * ((n : Int) - (d : Int)) = ((112 + 28 * (n - d) : Nat) : Int) by omega, show ii 0 = ii ((0 : Nat) : Int) from rfl, mcopy_mk (by omega) (by omega) (by omega), b1_mk, gW, xI_mk zk_206 (by omega) (by rw [zl_206]; omega) (by rw [zl_206]; omega), gW, aI_mk zk_206 (by omega) (by rw [zl_206]; omega) (by rw [zl_206]; omega), show (25 : Int).toNat = 25 from rfl, show (20 : Int).toNat = 20 from rfl, uI_o (by omega), uI_o (by omega), o 206 25 (by omega), show (n : Int) - (d : Int) = ((n - d : Nat) : Int) by omega]
        have e20 : mcp (ps_uI H 205 26 (ii ((n - d : Nat) : Int))) (112 + 28 * (n - d)) 0 28 206 20 = ii (wk h (25 + 5 * s) 20) := by
          unfold mcp
          rw [if_pos (by omega), uI_o (by omega), o 206 _ (by omega)]
          have := hback.2.2.1 20 (by omega) (by omega)
          rw [← this]
          unfold mrow
          rw [ii_toInt]
          exact congrArg (h 206) (by omega)
        rw [e20]
      · have o : ∀ c k, ¬ (18 ≤ c ∧ c ≤ 22) → ¬ (c = 23) → ¬ (c = 205 ∧ k = 26) → ¬ (c = 206 ∧ k < 25) → ps_uI (mcp (ps_uI (ps_uI (ps_uI (putW h 18 (wk h (25 + 5 * s))) 23 1 (ii s)) 23 0 (ii ((n - d : Nat) : Int))) 205 26 (ii ((n - d : Nat) : Int))) (112 + 28 * (n - d)) 0 28) 206 25 (h 206 25) c k = (if c = 206 ∧ 25 < k ∧ k < 28 then h 206 (k - 0 + (112 + 28 * (n - d))) else h c k) := by
          intro c k a1 a2 a3 a4
          by_cases e25 : c = 206 ∧ k = 25
          · rw [e25.1, e25.2, uI_s, if_neg (by omega)]
          · rw [uI_o e25]
            unfold mcp
            by_cases e26 : c = 206 ∧ 25 < k ∧ k < 28
            · rw [if_pos (by omega), if_pos e26, uI_o (by omega), uI_o (by omega), uI_o (by omega), putW_o _ _ _ (by omega)]
            · rw [if_neg (by omega), if_neg e26, uI_o a3, uI_o (by omega), uI_o (by omega), putW_o _ _ _ (by omega)]
        generalize hG : ps_uI (mcp (ps_uI (ps_uI (ps_uI (putW h 18 (wk h (25 + 5 * s))) 23 1 (ii s)) 23 0 (ii ((n - d : Nat) : Int))) 205 26 (ii ((n - d : Nat) : Int))) (112 + 28 * (n - d)) 0 28) 206 25 (h 206 25) = G at o
        have o' : ∀ c k, ¬ (18 ≤ c ∧ c ≤ 22) → ¬ (c = 23) → ¬ (c = 205 ∧ k = 26) → ¬ (c = 206 ∧ k < 25) → ¬ (c = 206 ∧ 25 < k ∧ k < 28) → G c k = h c k := fun c k a1 a2 a3 a4 a5 => by rw [o c k a1 a2 a3 a4, if_neg a5]
        refine ⟨RY_c hRY (fun c k q => o' c k (by omega) (by omega) (by omega) (by omega) (by omega)), ?_, RS_c hS (fun c k q => o' c k (by omega) (by omega) (by omega) (by omega) (by omega)), Ls_c hseen (fun c k q => o' c k (by omega) (by omega) (by omega) (by omega) (by omega)), Ls_c hbook (fun c k q => o' c k (by omega) (by omega) (by omega) (by omega) (by omega)), Ls_c htext (fun c k q => o' c k (by omega) (by omega) (by omega) (by omega) (by omega)), RF_c hF (fun c k q => o' c k (by omega) (by omega) (by omega) (by omega) (by omega)), RI_c hy4 hI0 (fun c k q => o' c k (by omega) (by omega) (by omega) (by omega) (by omega)), RI_c hy4 hI1 (fun c k q => o' c k (by omega) (by omega) (by omega) (by omega) (by omega)), ⟨n - d, s, by omega, hb30, ?_, ?_, ?_, fun j hj => ?_⟩⟩
        · unfold RN
          have e1 : wk G 18 = wk (putW h 18 (wk h (25 + 5 * s))) 18 := wk_c (fun c k a b => by
            rw [← hG, uI_o (by omega)]
            unfold mcp
            rw [if_neg (by omega), uI_o (by omega), uI_o (by omega), uI_o (by omega)])
          rw [e1]
          refine Ok_25 hback hy4 (wk_wk h 18 _) (fun j hj => ?_)
          unfold mrow
          rw [← hG, uI_o (by omega)]
          unfold mcp
          rw [if_pos (by omega), uI_o (by omega), uI_o (by omega), uI_o (by omega), putW_o _ _ _ (by omega)]
          congr 2
          omega
        · rw [← hG, uI_o (by omega)]
          unfold mcp
          rw [if_neg (by omega), uI_o (by omega), uI_s]
        · rw [← hG, uI_o (by omega)]
          unfold mcp
          rw [if_neg (by omega), uI_s]
        · rw [← hG, uI_o (by omega)]
          unfold mcp
          rw [if_neg (by omega), uI_o (by omega), uI_o (by omega), uI_s]
        · have h1 := hold j (by omega)
          rw [show (t + 30 - n + j) % 30 = (s + 30 - (n - d) + j) % 30 by omega] at h1
          have hm : (s + 30 - (n - d) + j) % 30 < 30 := Nat.mod_lt _ (by omega)
          generalize (s + 30 - (n - d) + j) % 30 = q at h1 hm ⊢
          rw [wk_c (a := 25 + 5 * q) (h := h) (fun c k a b => o' c k (by omega) (by omega) (by omega) (by omega) (by omega))]
          exact Ok_m h1 (fun i hi => mrow_c (o' _ _ (by omega) (by omega) (by omega) (by omega) (by omega))) hy4
    · refine eqv_of (r := ii (-1000000003)) (h1 := h) (h2 := h) (b1 := b) (b2 := b) ?_ ?_ (inv_of hR0)
      · unfold f_X9_undo
        rw [win_, b2_mk, if_pos c, if_neg (by decide), g0_3, gI_mk zk_23, p0, if_neg (by rw [ii_le (by omega) (by omega) (by omega) (by omega)]; exact cn)]
        rfl
      · show f_X10_undo (mk h b) 205 (ii X) = _
        unfold f_X10_undo
        rw [min_, b2_mk, if_pos c, if_neg (by decide), gI_mk zk_205, p26, if_neg (by rw [ii_le (by omega) (by omega) (by omega) (by omega)]; exact cn)]
        rfl
  · refine eqv_of (r := ii (-1000000002)) (h1 := h) (h2 := h) (b1 := b) (b2 := b) ?_ ?_ (inv_of hR0)
    · unfold f_X9_undo
      rw [win_, b2_mk, if_neg c, if_pos (by decide)]
      rfl
    · show f_X10_undo (mk h b) 205 (ii X) = _
      unfold f_X10_undo
      rw [min_, b2_mk, if_neg c, if_pos (by decide)]
      rfl
theorem arm33 : ps_arm33 Inv := by
  rintro k M x hk ⟨h, b, y, rfl, hR⟩
  have hR0 := hR
  obtain ⟨X, rfl, x1, x2⟩ := ex_ii x
  obtain ⟨hRY, hN, hS, hseen, hbook, htext, hF, hI0, hI1, hP⟩ := hR
  have hb := wk16_b hN hRY.1
  obtain ⟨n, t, hn, ht, p0, p26, p1, hold⟩ := hP
  have hy4 := hRY.1.2.1.2
  obtain ⟨e16, e17, e18, e19, e20, e21, e22, e23, e24, erow⟩ := RN_eq hN
  obtain ⟨o0, o1, o2, o3, o4, o5, o6, o7, o8⟩ := wk_or h 18
  obtain ⟨hvd, hvs, hva, hvg, hvw, hvt, hvp⟩ := hN.1
  have k0 := iw_18.1
  have w := putW_r (crem h n t) 18
  have u := uI_w (crem h n t) 18
  have min_ : ∀ H : zM, f_X10_in (mk H b) ((ii X).toInt64) (0 : Int64) (1 : Int64) = some (ii (if 0 ≤ X ∧ X ≤ 1 then 1 else 0), mk H b) := fun H => by
    rw [ii_l64 x1 x2, show (1 : Int64) = l64 1 by decide, show (0 : Int64) = l64 0 by decide, in_mk (by omega) (by omega) (by omega) (by omega) (by omega) (by omega)]
  have win_ : ∀ H : zM, f_X9_isWithin (mk H b) (ii X) (0 : Int32) (1 : Int32) = some (ii (if 0 ≤ X ∧ X ≤ 1 then 1 else 0), mk H b) := fun H => by
    rw [show (1 : Int32) = ii 1 by decide, show (0 : Int32) = ii 0 by decide, within_mk (by omega) (by omega) (by omega) (by omega) (by omega) (by omega)]
  by_cases c : 0 ≤ X ∧ X ≤ 1
  · rcases (show X = 0 ∨ X = 1 by omega) with rfl | rfl
    · refine eqv_of (r := ii 1) (h1 := ps_uI (ps_uI (ps_uI (putW h 194 (wk h 18)) 193 1 (h 0 10)) 193 2 (ii 1)) 23 0 (ii 0)) (h2 := ps_uI (ps_uI (mcp (ps_uI (ps_uI (ps_uI (putW h 194 (wk h 18)) 193 1 (h 0 10)) 193 2 (ii 1)) 23 0 (ii 0)) 0 56 28) 207 0 (ii 1)) 205 26 (ii 0)) (b1 := b) (b2 := b) ?_ ?_ ⟨_, b, y, rfl, Rel_up (g := 891 * k) ?_ (by omega)⟩
      · unfold f_X9_keep f_X9_keep_b27 f_X2_clear
        rw [win_, b2_mk, if_pos c, if_neg (by decide), if_pos (by decide), g0_8, gR_mk zk_193 (zr_193_0 b), g0_2, ck_mk iw_194.1, become_mk iw_194 iw_18 (by omega) hvw, b1_mk, gI_mk zk_0, putW_o _ _ _ (by omega), pI_mk zk_193, pZ_mk zk_193 (Or.inr rfl), g0_3, ck_mk zk_23, show (1 : Int32) = ii 1 by decide, show (0 : Int32) = ii 0 by decide, pI_mk zk_23, b1_mk]
      · have o : ∀ c k, ¬ (193 ≤ c ∧ c ≤ 198) → ¬ (c = 23) → (ps_uI (ps_uI (ps_uI (putW h 194 (wk h 18)) 193 1 (h 0 10)) 193 2 (ii 1)) 23 0 (ii 0)) c k = h c k := fun c k a1 a2 => by rw [uI_o (by omega), uI_o (by omega), uI_o (by omega), putW_o _ _ _ (by omega)]
        show f_X10_keep (mk (ps_uI (ps_uI (ps_uI (putW h 194 (wk h 18)) 193 1 (h 0 10)) 193 2 (ii 1)) 23 0 (ii 0)) b) 205 (ii 0) = _
        generalize ps_uI (ps_uI (ps_uI (putW h 194 (wk h 18)) 193 1 (h 0 10)) 193 2 (ii 1)) 23 0 (ii 0) = H at o
        unfold f_X10_keep
        simp only [ii_lits, ii_mul, ii_add]
        rw [min_, b2_mk, if_pos c, if_neg (by decide), ck_mk zk_205, show (56 + 28 * 0 : Int) = ((56 : Nat) : Int) by omega, show ii 0 = ii ((0 : Nat) : Int) from rfl, mcopy_mk (by omega) (by omega) (by omega), b1_mk, gR_mk zk_205 (zr_205_1 b), show ((0 : Nat) : Int) = 0 from rfl, xZ_mk zk_207 (by omega) (by rw [zl_207]; omega) (by rw [zl_207]; omega) (Or.inr (by decide)), pI_mk zk_205]
        rfl
      · have o : ∀ c k, ¬ (193 ≤ c ∧ c ≤ 198) → ¬ (c = 23 ∧ k = 0) → ¬ (c = 205 ∧ k = 26) → ¬ (c = 206 ∧ 56 ≤ k ∧ k < 84) → ¬ (c = 207 ∧ k = 0) → (ps_uI (ps_uI (mcp (ps_uI (ps_uI (ps_uI (putW h 194 (wk h 18)) 193 1 (h 0 10)) 193 2 (ii 1)) 23 0 (ii 0)) 0 56 28) 207 0 (ii 1)) 205 26 (ii 0)) c k = h c k := fun c k a1 a2 a3 a4 a5 => by
          rw [uI_o a3, uI_o a5]
          unfold mcp
          rw [if_neg (by omega), uI_o a2, uI_o (by omega), uI_o (by omega), putW_o _ _ _ (by omega)]
        refine ⟨RY_c hRY (fun c k q => o c k (by omega) (by omega) (by omega) (by omega) (by omega)), RN_c hy4 hN (fun c k q => o c k (by omega) (by omega) (by omega) (by omega) (by omega)), RS_c hS (fun c k q => o c k (by omega) (by omega) (by omega) (by omega) (by omega)), Ls_c hseen (fun c k q => o c k (by omega) (by omega) (by omega) (by omega) (by omega)), Ls_c hbook (fun c k q => o c k (by omega) (by omega) (by omega) (by omega) (by omega)), Ls_c htext (fun c k q => o c k (by omega) (by omega) (by omega) (by omega) (by omega)), RF_c hF (fun c k q => o c k (by omega) (by omega) (by omega) (by omega) (by omega)), ?_, (RI_c hy4 hI1 (fun c k q => o c k (by omega) (by omega) (by omega) (by omega) (by omega))), RP_zero ht ?_ ?_ ?_⟩
        · refine Or.inr ⟨?_, ?_, ?_, ?_, ?_⟩
          · rw [uI_o (by omega), uI_o (by omega)]
            unfold mcp
            rw [if_neg (by omega), uI_o (by omega), uI_s]
          · rw [uI_o (by omega), uI_s]
          · have e1 : wk (ps_uI (ps_uI (mcp (ps_uI (ps_uI (ps_uI (putW h 194 (wk h 18)) 193 1 (h 0 10)) 193 2 (ii 1)) 23 0 (ii 0)) 0 56 28) 207 0 (ii 1)) 205 26 (ii 0)) 194 = wk (putW h 194 (wk h 18)) 194 := wk_c (fun c k a b => by
              rw [uI_o (by omega), uI_o (by omega)]
              unfold mcp
              rw [if_neg (by omega), uI_o (by omega), uI_o (by omega), uI_o (by omega)])
            show Ok y _ (wk (ps_uI (ps_uI (mcp (ps_uI (ps_uI (ps_uI (putW h 194 (wk h 18)) 193 1 (h 0 10)) 193 2 (ii 1)) 23 0 (ii 0)) 0 56 28) 207 0 (ii 1)) 205 26 (ii 0)) 194) _
            rw [e1]
            refine Ok_25 hN hy4 (wk_wk h 194 18) (fun j hj => ?_)
            unfold mrow
            rw [uI_o (by omega), uI_o (by omega)]
            unfold mcp
            rw [if_pos (by omega), uI_o (by omega), uI_o (by omega), uI_o (by omega), putW_o _ _ _ (by omega)]
            congr 2
            omega
          · rw [uI_o (by omega), uI_o (by omega), uI_o (by omega), uI_o (by omega)]
            unfold mcp
            rw [if_pos (by omega), uI_o (by omega), uI_o (by omega), uI_o (by omega), putW_o _ _ _ (by omega), if_neg (by omega), uI_o (by omega), uI_o (by omega), uI_s]
            exact hS.1
          · rw [uI_o (by omega), uI_o (by omega)]
            unfold mcp
            rw [if_neg (by omega), uI_o (by omega), uI_o (by omega), uI_s]
            exact hS.2
        · rw [uI_o (by omega), uI_o (by omega)]
          unfold mcp
          rw [if_neg (by omega), uI_s]
        · rw [o 23 1 (by omega) (by omega) (by omega) (by omega) (by omega)]
          exact p1
        · rw [uI_s]
    · refine eqv_of (r := ii 1) (h1 := ps_uI (ps_uI (ps_uI (putW h 200 (wk h 18)) 199 1 (h 0 10)) 199 2 (ii 1)) 23 0 (ii 0)) (h2 := ps_uI (ps_uI (mcp (ps_uI (ps_uI (ps_uI (putW h 200 (wk h 18)) 199 1 (h 0 10)) 199 2 (ii 1)) 23 0 (ii 0)) 0 84 28) 207 1 (ii 1)) 205 26 (ii 0)) (b1 := b) (b2 := b) ?_ ?_ ⟨_, b, y, rfl, Rel_up (g := 891 * k) ?_ (by omega)⟩
      · unfold f_X9_keep f_X9_keep_b27 f_X2_clear
        rw [win_, b2_mk, if_pos c, if_neg (by decide), if_neg (by decide), g0_9, gR_mk zk_199 (zr_199_0 b), g0_2, ck_mk iw_200.1, become_mk iw_200 iw_18 (by omega) hvw, b1_mk, gI_mk zk_0, putW_o _ _ _ (by omega), pI_mk zk_199, pZ_mk zk_199 (Or.inr rfl), g0_3, ck_mk zk_23, show (1 : Int32) = ii 1 by decide, show (0 : Int32) = ii 0 by decide, pI_mk zk_23, b1_mk]
      · have o : ∀ c k, ¬ (199 ≤ c ∧ c ≤ 204) → ¬ (c = 23) → (ps_uI (ps_uI (ps_uI (putW h 200 (wk h 18)) 199 1 (h 0 10)) 199 2 (ii 1)) 23 0 (ii 0)) c k = h c k := fun c k a1 a2 => by rw [uI_o (by omega), uI_o (by omega), uI_o (by omega), putW_o _ _ _ (by omega)]
        show f_X10_keep (mk (ps_uI (ps_uI (ps_uI (putW h 200 (wk h 18)) 199 1 (h 0 10)) 199 2 (ii 1)) 23 0 (ii 0)) b) 205 (ii 1) = _
        generalize ps_uI (ps_uI (ps_uI (putW h 200 (wk h 18)) 199 1 (h 0 10)) 199 2 (ii 1)) 23 0 (ii 0) = H at o
        unfold f_X10_keep
        simp only [ii_lits, ii_mul, ii_add]
        rw [min_, b2_mk, if_pos c, if_neg (by decide), ck_mk zk_205, show (56 + 28 * 1 : Int) = ((84 : Nat) : Int) by omega, show ii 0 = ii ((0 : Nat) : Int) from rfl, mcopy_mk (by omega) (by omega) (by omega), b1_mk, gR_mk zk_205 (zr_205_1 b), xZ_mk zk_207 (by omega) (by rw [zl_207]; omega) (by rw [zl_207]; omega) (Or.inr (by decide)), pI_mk zk_205]
        rfl
      · have o : ∀ c k, ¬ (199 ≤ c ∧ c ≤ 204) → ¬ (c = 23 ∧ k = 0) → ¬ (c = 205 ∧ k = 26) → ¬ (c = 206 ∧ 84 ≤ k ∧ k < 112) → ¬ (c = 207 ∧ k = 1) → (ps_uI (ps_uI (mcp (ps_uI (ps_uI (ps_uI (putW h 200 (wk h 18)) 199 1 (h 0 10)) 199 2 (ii 1)) 23 0 (ii 0)) 0 84 28) 207 1 (ii 1)) 205 26 (ii 0)) c k = h c k := fun c k a1 a2 a3 a4 a5 => by
          rw [uI_o a3, uI_o a5]
          unfold mcp
          rw [if_neg (by omega), uI_o a2, uI_o (by omega), uI_o (by omega), putW_o _ _ _ (by omega)]
        refine ⟨RY_c hRY (fun c k q => o c k (by omega) (by omega) (by omega) (by omega) (by omega)), RN_c hy4 hN (fun c k q => o c k (by omega) (by omega) (by omega) (by omega) (by omega)), RS_c hS (fun c k q => o c k (by omega) (by omega) (by omega) (by omega) (by omega)), Ls_c hseen (fun c k q => o c k (by omega) (by omega) (by omega) (by omega) (by omega)), Ls_c hbook (fun c k q => o c k (by omega) (by omega) (by omega) (by omega) (by omega)), Ls_c htext (fun c k q => o c k (by omega) (by omega) (by omega) (by omega) (by omega)), RF_c hF (fun c k q => o c k (by omega) (by omega) (by omega) (by omega) (by omega)), (RI_c hy4 hI0 (fun c k q => o c k (by omega) (by omega) (by omega) (by omega) (by omega))), ?_, RP_zero ht ?_ ?_ ?_⟩
        · refine Or.inr ⟨?_, ?_, ?_, ?_, ?_⟩
          · rw [uI_o (by omega), uI_o (by omega)]
            unfold mcp
            rw [if_neg (by omega), uI_o (by omega), uI_s]
          · rw [uI_o (by omega), uI_s]
          · have e1 : wk (ps_uI (ps_uI (mcp (ps_uI (ps_uI (ps_uI (putW h 200 (wk h 18)) 199 1 (h 0 10)) 199 2 (ii 1)) 23 0 (ii 0)) 0 84 28) 207 1 (ii 1)) 205 26 (ii 0)) 200 = wk (putW h 200 (wk h 18)) 200 := wk_c (fun c k a b => by
              rw [uI_o (by omega), uI_o (by omega)]
              unfold mcp
              rw [if_neg (by omega), uI_o (by omega), uI_o (by omega), uI_o (by omega)])
            show Ok y _ (wk (ps_uI (ps_uI (mcp (ps_uI (ps_uI (ps_uI (putW h 200 (wk h 18)) 199 1 (h 0 10)) 199 2 (ii 1)) 23 0 (ii 0)) 0 84 28) 207 1 (ii 1)) 205 26 (ii 0)) 200) _
            rw [e1]
            refine Ok_25 hN hy4 (wk_wk h 200 18) (fun j hj => ?_)
            unfold mrow
            rw [uI_o (by omega), uI_o (by omega)]
            unfold mcp
            rw [if_pos (by omega), uI_o (by omega), uI_o (by omega), uI_o (by omega), putW_o _ _ _ (by omega)]
            congr 2
            omega
          · rw [uI_o (by omega), uI_o (by omega), uI_o (by omega), uI_o (by omega)]
            unfold mcp
            rw [if_pos (by omega), uI_o (by omega), uI_o (by omega), uI_o (by omega), putW_o _ _ _ (by omega), if_neg (by omega), uI_o (by omega), uI_o (by omega), uI_s]
            exact hS.1
          · rw [uI_o (by omega), uI_o (by omega)]
            unfold mcp
            rw [if_neg (by omega), uI_o (by omega), uI_o (by omega), uI_s]
            exact hS.2
        · rw [uI_o (by omega), uI_o (by omega)]
          unfold mcp
          rw [if_neg (by omega), uI_s]
        · rw [o 23 1 (by omega) (by omega) (by omega) (by omega) (by omega)]
          exact p1
        · rw [uI_s]
  · refine eqv_of (r := ii (-1000000001)) (h1 := h) (h2 := h) (b1 := b) (b2 := b) ?_ ?_ (inv_of hR0)
    · unfold f_X9_keep
      rw [win_, b2_mk, if_neg c, if_pos (by decide)]
      rfl
    · show f_X10_keep (mk h b) 205 (ii X) = _
      unfold f_X10_keep
      rw [min_, b2_mk, if_neg c, if_pos (by decide)]
      rfl
theorem arm34 : ps_arm34 Inv := by
  rintro k M x hk ⟨h, b, y, rfl, hR⟩
  have hR0 := hR
  obtain ⟨X, rfl, x1, x2⟩ := ex_ii x
  obtain ⟨hRY, hN, hS, hseen, hbook, htext, hF, hI0, hI1, hP⟩ := hR
  have hb := wk16_b hN hRY.1
  have hI0' := hI0
  have hI1' := hI1
  obtain ⟨n, t, hn, ht, p0, p26, p1, hold⟩ := hP
  have hy4 := hRY.1.2.1.2
  obtain ⟨e16, e17, e18, e19, e20, e21, e22, e23, e24, erow⟩ := RN_eq hN
  obtain ⟨o0, o1, o2, o3, o4, o5, o6, o7, o8⟩ := wk_or h 18
  obtain ⟨hvd, hvs, hva, hvg, hvw, hvt, hvp⟩ := hN.1
  have k0 := iw_18.1
  have w := putW_r (crem h n t) 18
  have u := uI_w (crem h n t) 18
  have min_ : ∀ H : zM, f_X10_in (mk H b) ((ii X).toInt64) (0 : Int64) (1 : Int64) = some (ii (if 0 ≤ X ∧ X ≤ 1 then 1 else 0), mk H b) := fun H => by
    rw [ii_l64 x1 x2, show (1 : Int64) = l64 1 by decide, show (0 : Int64) = l64 0 by decide, in_mk (by omega) (by omega) (by omega) (by omega) (by omega) (by omega)]
  have win_ : ∀ H : zM, f_X9_isWithin (mk H b) (ii X) (0 : Int32) (1 : Int32) = some (ii (if 0 ≤ X ∧ X ≤ 1 then 1 else 0), mk H b) := fun H => by
    rw [show (1 : Int32) = ii 1 by decide, show (0 : Int32) = ii 0 by decide, within_mk (by omega) (by omega) (by omega) (by omega) (by omega) (by omega)]
  by_cases c : 0 ≤ X ∧ X ≤ 1
  · rcases (show X = 0 ∨ X = 1 by omega) with rfl | rfl
    · rcases hI0 with ⟨i1, i2⟩ | ⟨i1, i2, iO, iS, iS0⟩
      · refine eqv_of (r := ii (-1000000003)) (h1 := h) (h2 := h) (b1 := b) (b2 := b) ?_ ?_ (inv_of hR0)
        · unfold f_X9_goBack f_X9_goBack_b27
          rw [win_, b2_mk, if_pos c, if_neg (by decide), if_pos (by decide), g0_8, gI_mk zk_193, i1, if_pos (by decide)]
          rfl
        · show f_X10_goBack (mk h b) 205 (ii 0) = _
          unfold f_X10_goBack
          rw [min_, b2_mk, if_pos c, if_neg (by decide), gR_mk zk_205 (zr_205_1 b), aZ_mk zk_207 (by omega) (by rw [zl_207]; omega) (by rw [zl_207]; omega), show (0 : Int).toNat = 0 from rfl, i2, if_pos (by decide)]
          rfl
      · have hO : Ok y (891 * k) (wk h 194) (mrow h 56) := iO
        refine eqv_of (r := ii 1) (h1 := ps_uI (ps_uI (putW h 18 (wk h 194)) 0 10 (h 193 1)) 23 0 (ii 0)) (h2 := ps_uI (mcp (ps_uI (ps_uI (putW h 18 (wk h 194)) 0 10 (h 193 1)) 23 0 (ii 0)) 56 0 28) 205 26 (ii 0)) (b1 := b) (b2 := b) ?_ ?_ ⟨_, b, y, rfl, Rel_up (g := 891 * k) ?_ (by omega)⟩
        · unfold f_X9_goBack f_X9_goBack_b27 f_X2_clear
          rw [win_, b2_mk, if_pos c, if_neg (by decide), if_pos (by decide), g0_8, gI_mk zk_193, i1, if_neg (by decide), g0_2, gR_mk zk_193 (zr_193_0 b), ck_mk k0, become_mk iw_18 iw_194 (by omega) hO.1.2.2.2.2.1, b1_mk, gI_mk zk_193, putW_o _ _ _ (by omega), pI_mk zk_0, g0_3, ck_mk zk_23, show (1 : Int32) = ii 1 by decide, show (0 : Int32) = ii 0 by decide, pI_mk zk_23, b1_mk]
        · have o : ∀ c k, ¬ (18 ≤ c ∧ c ≤ 23) → ¬ (c = 0) → (ps_uI (ps_uI (putW h 18 (wk h 194)) 0 10 (h 193 1)) 23 0 (ii 0)) c k = h c k := fun c k a1 a2 => by rw [uI_o (by omega), uI_o (by omega), putW_o _ _ _ (by omega)]
          show f_X10_goBack (mk (ps_uI (ps_uI (putW h 18 (wk h 194)) 0 10 (h 193 1)) 23 0 (ii 0)) b) 205 (ii 0) = _
          generalize ps_uI (ps_uI (putW h 18 (wk h 194)) 0 10 (h 193 1)) 23 0 (ii 0) = H at o
          unfold f_X10_goBack
          simp only [ii_lits, ii_mul, ii_add]
          rw [min_, b2_mk, if_pos c, if_neg (by decide), gR_mk zk_205 (zr_205_1 b), aZ_mk zk_207 (by omega) (by rw [zl_207]; omega) (by rw [zl_207]; omega), show (0 : Int).toNat = 0 from rfl, o 207 _ (by omega) (by omega), i2, if_neg (by decide), ck_mk zk_205, show (56 + 28 * 0 : Int) = ((56 : Nat) : Int) by omega, show ii 0 = ii ((0 : Nat) : Int) from rfl, mcopy_mk (by omega) (by omega) (by omega), b1_mk, pI_mk zk_205]
        · have o : ∀ c k, ¬ (18 ≤ c ∧ c ≤ 22) → ¬ (c = 0) → ¬ (c = 23 ∧ k = 0) → ¬ (c = 205 ∧ k = 26) → ¬ (c = 206 ∧ k < 28) → (ps_uI (mcp (ps_uI (ps_uI (putW h 18 (wk h 194)) 0 10 (h 193 1)) 23 0 (ii 0)) 56 0 28) 205 26 (ii 0)) c k = h c k := fun c k a1 a2 a3 a4 a5 => by
            rw [uI_o a4]
            unfold mcp
            rw [if_neg (by omega), uI_o a3, uI_o (by omega), putW_o _ _ _ (by omega)]
          refine ⟨RY_c hRY (fun c k q => o c k (by omega) (by omega) (by omega) (by omega) (by omega)), ?_, ⟨?_, ?_⟩, Ls_c hseen (fun c k q => o c k (by omega) (by omega) (by omega) (by omega) (by omega)), Ls_c hbook (fun c k q => o c k (by omega) (by omega) (by omega) (by omega) (by omega)), Ls_c htext (fun c k q => o c k (by omega) (by omega) (by omega) (by omega) (by omega)), RF_c hF (fun c k q => o c k (by omega) (by omega) (by omega) (by omega) (by omega)), RI_c hy4 hI0' (fun c k q => o c k (by omega) (by omega) (by omega) (by omega) (by omega)), RI_c hy4 hI1' (fun c k q => o c k (by omega) (by omega) (by omega) (by omega) (by omega)), RP_zero ht ?_ ?_ ?_⟩
          · unfold RN
            have e1 : wk (ps_uI (mcp (ps_uI (ps_uI (putW h 18 (wk h 194)) 0 10 (h 193 1)) 23 0 (ii 0)) 56 0 28) 205 26 (ii 0)) 18 = wk (putW h 18 (wk h 194)) 18 := wk_c (fun c k a b => by
              rw [uI_o (by omega)]
              unfold mcp
              rw [if_neg (by omega), uI_o (by omega), uI_o (by omega)])
            rw [e1]
            refine Ok_25 hO hy4 (wk_wk h 18 194) (fun j hj => ?_)
            unfold mrow
            rw [uI_o (by omega)]
            unfold mcp
            rw [if_pos (by omega), uI_o (by omega), uI_o (by omega), putW_o _ _ _ (by omega)]
            congr 2
            omega
          · rw [uI_o (by omega), uI_o (by omega)]
            unfold mcp
            rw [if_pos (by omega), uI_o (by omega), uI_o (by omega), putW_o _ _ _ (by omega), if_neg (by omega), uI_o (by omega), uI_s]
            exact iS
          · rw [uI_o (by omega)]
            unfold mcp
            rw [if_neg (by omega), uI_o (by omega), uI_s]
            exact iS0
          · rw [uI_o (by omega)]
            unfold mcp
            rw [if_neg (by omega), uI_s]
          · rw [o 23 1 (by omega) (by omega) (by omega) (by omega) (by omega)]
            exact p1
          · rw [uI_s]
    · rcases hI1 with ⟨i1, i2⟩ | ⟨i1, i2, iO, iS, iS0⟩
      · refine eqv_of (r := ii (-1000000003)) (h1 := h) (h2 := h) (b1 := b) (b2 := b) ?_ ?_ (inv_of hR0)
        · unfold f_X9_goBack f_X9_goBack_b27
          rw [win_, b2_mk, if_pos c, if_neg (by decide), if_neg (by decide), g0_9, gI_mk zk_199, i1, if_pos (by decide)]
          rfl
        · show f_X10_goBack (mk h b) 205 (ii 1) = _
          unfold f_X10_goBack
          rw [min_, b2_mk, if_pos c, if_neg (by decide), gR_mk zk_205 (zr_205_1 b), aZ_mk zk_207 (by omega) (by rw [zl_207]; omega) (by rw [zl_207]; omega), show (1 : Int).toNat = 1 from rfl, i2, if_pos (by decide)]
          rfl
      · have hO : Ok y (891 * k) (wk h 200) (mrow h 84) := iO
        refine eqv_of (r := ii 1) (h1 := ps_uI (ps_uI (putW h 18 (wk h 200)) 0 10 (h 199 1)) 23 0 (ii 0)) (h2 := ps_uI (mcp (ps_uI (ps_uI (putW h 18 (wk h 200)) 0 10 (h 199 1)) 23 0 (ii 0)) 84 0 28) 205 26 (ii 0)) (b1 := b) (b2 := b) ?_ ?_ ⟨_, b, y, rfl, Rel_up (g := 891 * k) ?_ (by omega)⟩
        · unfold f_X9_goBack f_X9_goBack_b27 f_X2_clear
          rw [win_, b2_mk, if_pos c, if_neg (by decide), if_neg (by decide), g0_9, gI_mk zk_199, i1, if_neg (by decide), g0_2, gR_mk zk_199 (zr_199_0 b), ck_mk k0, become_mk iw_18 iw_200 (by omega) hO.1.2.2.2.2.1, b1_mk, gI_mk zk_199, putW_o _ _ _ (by omega), pI_mk zk_0, g0_3, ck_mk zk_23, show (1 : Int32) = ii 1 by decide, show (0 : Int32) = ii 0 by decide, pI_mk zk_23, b1_mk]
        · have o : ∀ c k, ¬ (18 ≤ c ∧ c ≤ 23) → ¬ (c = 0) → (ps_uI (ps_uI (putW h 18 (wk h 200)) 0 10 (h 199 1)) 23 0 (ii 0)) c k = h c k := fun c k a1 a2 => by rw [uI_o (by omega), uI_o (by omega), putW_o _ _ _ (by omega)]
          show f_X10_goBack (mk (ps_uI (ps_uI (putW h 18 (wk h 200)) 0 10 (h 199 1)) 23 0 (ii 0)) b) 205 (ii 1) = _
          generalize ps_uI (ps_uI (putW h 18 (wk h 200)) 0 10 (h 199 1)) 23 0 (ii 0) = H at o
          unfold f_X10_goBack
          simp only [ii_lits, ii_mul, ii_add]
          rw [min_, b2_mk, if_pos c, if_neg (by decide), gR_mk zk_205 (zr_205_1 b), aZ_mk zk_207 (by omega) (by rw [zl_207]; omega) (by rw [zl_207]; omega), show (1 : Int).toNat = 1 from rfl, o 207 _ (by omega) (by omega), i2, if_neg (by decide), ck_mk zk_205, show (56 + 28 * 1 : Int) = ((84 : Nat) : Int) by omega, show ii 0 = ii ((0 : Nat) : Int) from rfl, mcopy_mk (by omega) (by omega) (by omega), b1_mk, pI_mk zk_205]
        · have o : ∀ c k, ¬ (18 ≤ c ∧ c ≤ 22) → ¬ (c = 0) → ¬ (c = 23 ∧ k = 0) → ¬ (c = 205 ∧ k = 26) → ¬ (c = 206 ∧ k < 28) → (ps_uI (mcp (ps_uI (ps_uI (putW h 18 (wk h 200)) 0 10 (h 199 1)) 23 0 (ii 0)) 84 0 28) 205 26 (ii 0)) c k = h c k := fun c k a1 a2 a3 a4 a5 => by
            rw [uI_o a4]
            unfold mcp
            rw [if_neg (by omega), uI_o a3, uI_o (by omega), putW_o _ _ _ (by omega)]
          refine ⟨RY_c hRY (fun c k q => o c k (by omega) (by omega) (by omega) (by omega) (by omega)), ?_, ⟨?_, ?_⟩, Ls_c hseen (fun c k q => o c k (by omega) (by omega) (by omega) (by omega) (by omega)), Ls_c hbook (fun c k q => o c k (by omega) (by omega) (by omega) (by omega) (by omega)), Ls_c htext (fun c k q => o c k (by omega) (by omega) (by omega) (by omega) (by omega)), RF_c hF (fun c k q => o c k (by omega) (by omega) (by omega) (by omega) (by omega)), RI_c hy4 hI0' (fun c k q => o c k (by omega) (by omega) (by omega) (by omega) (by omega)), RI_c hy4 hI1' (fun c k q => o c k (by omega) (by omega) (by omega) (by omega) (by omega)), RP_zero ht ?_ ?_ ?_⟩
          · unfold RN
            have e1 : wk (ps_uI (mcp (ps_uI (ps_uI (putW h 18 (wk h 200)) 0 10 (h 199 1)) 23 0 (ii 0)) 84 0 28) 205 26 (ii 0)) 18 = wk (putW h 18 (wk h 200)) 18 := wk_c (fun c k a b => by
              rw [uI_o (by omega)]
              unfold mcp
              rw [if_neg (by omega), uI_o (by omega), uI_o (by omega)])
            rw [e1]
            refine Ok_25 hO hy4 (wk_wk h 18 200) (fun j hj => ?_)
            unfold mrow
            rw [uI_o (by omega)]
            unfold mcp
            rw [if_pos (by omega), uI_o (by omega), uI_o (by omega), putW_o _ _ _ (by omega)]
            congr 2
            omega
          · rw [uI_o (by omega), uI_o (by omega)]
            unfold mcp
            rw [if_pos (by omega), uI_o (by omega), uI_o (by omega), putW_o _ _ _ (by omega), if_neg (by omega), uI_o (by omega), uI_s]
            exact iS
          · rw [uI_o (by omega)]
            unfold mcp
            rw [if_neg (by omega), uI_o (by omega), uI_s]
            exact iS0
          · rw [uI_o (by omega)]
            unfold mcp
            rw [if_neg (by omega), uI_s]
          · rw [o 23 1 (by omega) (by omega) (by omega) (by omega) (by omega)]
            exact p1
          · rw [uI_s]
  · refine eqv_of (r := ii (-1000000001)) (h1 := h) (h2 := h) (b1 := b) (b2 := b) ?_ ?_ (inv_of hR0)
    · unfold f_X9_goBack
      rw [win_, b2_mk, if_neg c, if_pos (by decide)]
      rfl
    · show f_X10_goBack (mk h b) 205 (ii X) = _
      unfold f_X10_goBack
      rw [min_, b2_mk, if_neg c, if_pos (by decide)]
      rfl
