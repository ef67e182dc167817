/-- the model's yard -/
def Ym (h : Nat → Nat → Int32) (y : Nat → Nat → Int) : Prop := h 205 2 = ii (y 0 0) ∧ h 205 3 = ii (y 0 1) ∧ h 205 4 = ii (y 0 3) ∧ h 205 5 = ii (y 0 4) ∧ h 205 6 = ii (y 0 5) ∧ (∀ j : Nat, (j : Int) < y 0 0 → h 208 j = ii (y 1 j)) ∧ ∀ p : Nat, (p : Int) < y 0 1 → h 209 p = ii (y 2 p) ∧ h 210 p = ii (y 3 p) ∧ h 211 p = ii (y 4 p) ∧ h 213 p = ii (y 6 p)
section
variable {h : Nat → Nat → Int32} {b : Bool} {α : Type} {r : Nat → Int} {x : Nat} {y : Nat → Nat → Int} {g : Int}
theorem rdY {c : Nat} {p : Int} {f : Int32 → Option α} (hK : zK c = 21) (hc : c ≠ 206) (h0 : 0 ≤ p) (hn : p < zL c) (hb : zL c ≤ 2147483648) : ps_aI (mk (putM h x r) b) c (ii p) f = f (h c p.toNat) := by
  rw [aI_mk hK h0 hn hb, putM_o h r (Or.inl hc)]
theorem gF {k : Nat} {f : Int32 → Option α} : ps_gI (mk (putM h x r) b) 205 9 k f = f (h 205 k) := by
  rw [gI_mk zk_205, putM_o h r (Or.inl (by omega))]
theorem mthrough_mk (hy : Yk y) (hYm : Ym h y) (hv : Vb y g r) (hx : x + 25 ≤ 952) : f_X10_isThrough (mk (putM h x r) b) 205 (ii x) = some (ii (if thr y r then 1 else 0), mk (putM h x r) b) := by
  obtain ⟨⟨L0, L1⟩, -⟩ := hy
  obtain ⟨⟨d1, d2⟩, -⟩ := hv
  unfold f_X10_isThrough
  simp only [ii_lits, ii_add]
  rw [gW, rdM (j := 19) (by omega) (by omega) hx, gF, hYm.1, ii_mul]
  by_cases hc : r 19 < 100 * y 0 0
  · rw [if_pos (by rw [ii_lt (by omega) (by omega) (by omega) (by omega)]; exact hc), if_neg (by unfold thr; omega)]
    rfl
  · rw [if_neg (by rw [ii_lt (by omega) (by omega) (by omega) (by omega)]; exact hc), if_pos (by unfold thr; omega)]
    rfl
theorem mpullOf_mk {p q : Int} (hy : Yk y) (hYm : Ym h y) (hv : Vb y g r) (hg : g ≤ 100000000) (hx : x + 25 ≤ 952) (hp0 : 0 ≤ p) (hp : p < y 0 1) (hq0 : 0 ≤ q) (hq : q < y 0 1) (hpq : p ≠ q) : f_X10_pullOf (mk (putM h x r) b) 205 (ii x) (ii p) (ii q) = some (ii (pe y r p.toNat (r (12 + q.toNat))), mk (putM h x (if bk y (r (12 + q.toNat)) = 1 then rs (rs r (4 + p.toNat) (clt (r (4 + p.toNat) + 2))) (4 + q.toNat) (clt (r (4 + q.toNat) + 2)) else r)) b) := by
  have hn : y 0 1 ≤ 4 := hy.2.1.2
  have hcl := hy.2.2.2.2.1
  have hli := hy.2.2.1
  have hl1 := hy.1
  obtain ⟨hvd, hvs, hva, hvg, hvw, hvt, hvp⟩ := id hv
  have hvP := hvp p.toNat (by omega)
  have hvQ := hvp q.toNat (by omega)
  obtain ⟨⟨f1, f2⟩, -⟩ := hy.2.2.2.2.2.2 p.toNat (by omega)
  have hb1 := pa_b hy hv (p := p.toNat) (by omega)
  have hb2 := pb_b hy hv (p := p.toNat) (by omega) hvQ.2.2.2
  obtain ⟨M0, M1, M3, M4, M5, MW, Mp⟩ := hYm
  obtain ⟨MF, MH, MT, MB⟩ := Mp p.toNat (by omega)
  obtain ⟨⟨v1, v2⟩, ⟨v3, v4⟩, ⟨v5, v6⟩, ⟨v7, v8⟩⟩ := hvP
  have hd := hvQ.2.2.2
  generalize hdd : r (12 + q.toNat) = d at *
  -- the last piece
  have e166 : ∀ (r' : Nat → Int) (z : Int), -5 ≤ z → z ≤ 43 → r' 22 = r 22 → r' 19 = r 19 → r' 23 = r 23 → f_X10_pullOf_b166 (mk (putM h x r') b) 205 (ii x) (ii z) = some (ii (max 0 (if r 23 = 0 ∧ y 0 5 ≤ r 19 / 100 then td (z - r 22 / 10) 2 else z - r 22 / 10)), mk (putM h x r') b) := by
    intro r' z hz1 hz2 h22 h19 h23
    have e223 : ∀ w : Int, -100000000 ≤ w → w ≤ 43 → f_X10_pullOf_b223 (mk (putM h x r') b) (ii w) = some (ii (max 0 w), mk (putM h x r') b) := by
      intro w hw1 hw2
      unfold f_X10_pullOf_b223 f_X10_pullOf_b236
      simp only [ii_lits]
      by_cases hw : 0 ≤ w
      · rw [if_pos (by rw [ii_le (by omega) (by omega) (by omega) (by omega)]; exact hw), show max 0 w = w by omega]
      · rw [if_neg (by rw [ii_le (by omega) (by omega) (by omega) (by omega)]; exact hw), show max 0 w = 0 by omega]
    unfold f_X10_pullOf_b166 f_X10_pullOf_b221
    simp only [ii_lits, ii_add]
    rw [gW, rdM (j := 22) (by omega) (by omega) hx, h22, ii_div (by omega) (by omega) (by omega) (by omega), ii_sub, v_mk, gW, rdM (j := 19) (by omega) (by omega) hx, h19, gF, M5, ii_div (by omega) (by omega) (by omega) (by omega)]
    by_cases hc : r 19 / 100 < y 0 5
    · rw [if_pos (by rw [ii_lt (by omega) (by omega) (by omega) (by omega)]; exact hc), e223 _ (by omega) (by omega), if_neg (by omega)]
    · rw [if_neg (by rw [ii_lt (by omega) (by omega) (by omega) (by omega)]; exact hc), gW, rdM (j := 23) (by omega) (by omega) hx, h23]
      rcases hvw with hw | hw
      · rw [hw, if_pos rfl, ii_td (by omega) (by omega) (by omega) (by omega), e223 _ (by unfold td; split <;> omega) (by unfold td; split <;> omega), if_pos (by omega)]
      · rw [hw, if_neg (by decide), e223 _ (by omega) (by omega), if_neg (by omega)]
  have e77 : f_X10_pullOf_b77 (mk (putM h x r) b) 205 (ii x) (ii p) (ii q) (ii (pa y r p.toNat)) = some (ii (pe y r p.toNat d), mk (putM h x (if bk y d = 1 then rs (rs r (4 + p.toNat) (clt (r (4 + p.toNat) + 2))) (4 + q.toNat) (clt (r (4 + q.toNat) + 2)) else r)) b) := by
    have hpe' : pe y r p.toNat d = max 0 (if r 23 = 0 ∧ y 0 5 ≤ r 19 / 100 then td (pb y r p.toNat d - r 22 / 10) 2 else pb y r p.toNat d - r 22 / 10) := rfl
    rw [hpe']
    unfold f_X10_pullOf_b77
    simp only [ii_lits, ii_add, ii_sub]
    rw [gW, rdM (j := 12 + q.toNat) (by omega) (by omega) hx, hdd]
    by_cases h5 : 5 ≤ d
    · rw [if_pos (by rw [ii_le (by omega) (by omega) (by omega) (by omega)]; exact h5)]
      by_cases h55 : d ≤ 5
      · rw [if_pos (by rw [ii_le (by omega) (by omega) (by omega) (by omega)]; exact h55)]
        have hbk : ¬ bk y d = 1 := by unfold bk; split <;> omega
        unfold f_X10_pullOf_b137
        simp only [ii_lits]
        rw [if_pos (by rw [ii_le (by omega) (by omega) (by omega) (by omega)]; exact h55), e166 r _ (by omega) (by omega) rfl rfl rfl, if_neg hbk]
        have : pb y r p.toNat d = pa y r p.toNat := by unfold pb; rw [if_neg hbk, if_neg (by omega), if_neg (by omega)]
        rw [this]
      · rw [if_neg (by rw [ii_le (by omega) (by omega) (by omega) (by omega)]; exact h55), gF, M3]
        simp only [ii_sub]
        by_cases hbk : y 0 3 < d - 5
        · rw [if_pos (by rw [ii_lt (by omega) (by omega) (by omega) (by omega)]; exact hbk)]
          have hbk1 : bk y d = 1 := by unfold bk; rw [if_pos (by omega)]
          unfold f_X10_pullOf_b137
          simp only [ii_lits, ii_add]
          rw [if_neg (by rw [ii_le (by omega) (by omega) (by omega) (by omega)]; exact h55), ck_mk zk_205, mtire_mk (j := 4 + p.toNat) (by omega) (by omega) hx ⟨v3, v4⟩ (by omega), b1_mk, ck_mk zk_205, mtire_mk (j := 4 + q.toNat) (by omega) (by omega) hx (by rw [rs_ne _ _ (by omega)]; exact hvQ.2.1) (by omega), b1_mk, rs_ne _ _ (by omega), e166 _ 0 (by omega) (by omega) (by rw [rs_ne _ _ (by omega), rs_ne _ _ (by omega)]) (by rw [rs_ne _ _ (by omega), rs_ne _ _ (by omega)]) (by rw [rs_ne _ _ (by omega), rs_ne _ _ (by omega)]), if_pos hbk1]
          have : pb y r p.toNat d = 0 := by unfold pb; rw [if_pos hbk1]
          rw [this]
        · rw [if_neg (by rw [ii_lt (by omega) (by omega) (by omega) (by omega)]; exact hbk)]
          have hbk0 : ¬ bk y d = 1 := by unfold bk; split <;> omega
          rw [ii_div (by omega) (by omega) (by omega) (by omega), ii_add, v_mk, e166 r _ (by omega) (by omega) rfl rfl rfl, if_neg hbk0]
          have : pb y r p.toNat d = pa y r p.toNat + pa y r p.toNat / 2 := by unfold pb; rw [if_neg hbk0, if_pos (by omega)]
          rw [this]
    · rw [if_neg (by rw [ii_le (by omega) (by omega) (by omega) (by omega)]; exact h5)]
      have hbk0 : ¬ bk y d = 1 := by unfold bk; split <;> omega
      simp only [ii_sub]
      rw [v_mk, e166 r _ (by omega) (by omega) rfl rfl rfl, if_neg hbk0]
      have : pb y r p.toNat d = pa y r p.toNat - d := by unfold pb; rw [if_neg hbk0, if_neg (by omega), if_pos (by omega)]
      rw [this]
  have e34 : ∀ z : Int, z = min (y 2 p.toNat) (r p.toNat) → f_X10_pullOf_b34 (mk (putM h x r) b) 205 (ii x) (ii p) (ii q) (ii z) = some (ii (pe y r p.toNat d), mk (putM h x (if bk y d = 1 then rs (rs r (4 + p.toNat) (clt (r (4 + p.toNat) + 2))) (4 + q.toNat) (clt (r (4 + q.toNat) + 2)) else r)) b) := by
    intro z hz
    have hpa : pa y r p.toNat = max 0 (z + r (8 + p.toNat) - r (4 + p.toNat) / 10) := by rw [hz]; rfl
    unfold f_X10_pullOf_b34
    simp only [ii_lits, ii_add]
    rw [gW, rdM (j := 8 + p.toNat) (by omega) (by omega) hx, gW, rdM (j := 4 + p.toNat) (by omega) (by omega) hx, ii_div (by omega) (by omega) (by omega) (by omega), ii_add, ii_sub, v_mk]
    by_cases hc : 0 ≤ z + r (8 + p.toNat) - r (4 + p.toNat) / 10
    · rw [if_pos (by rw [ii_le (by omega) (by omega) (by omega) (by omega)]; exact hc)]
      have : z + r (8 + p.toNat) - r (4 + p.toNat) / 10 = pa y r p.toNat := by omega
      rw [this]
      exact e77
    · rw [if_neg (by rw [ii_le (by omega) (by omega) (by omega) (by omega)]; exact hc)]
      have : (0 : Int) = pa y r p.toNat := by omega
      rw [this]
      exact e77
  unfold f_X10_pullOf
  simp only [ii_add]
  rw [gR_mk zk_205 (zr_205_15 b), rdY zk_209 (by omega) hp0 (by rw [zl_209]; omega) (by rw [zl_209]; omega), MF, gW, rdM (j := p.toNat) (by omega) (by omega) hx]
  by_cases hc : r p.toNat ≤ y 2 p.toNat
  · rw [if_pos (by rw [ii_le (by omega) (by omega) (by omega) (by omega)]; exact hc), gW, rdM (j := p.toNat) (by omega) (by omega) hx]
    exact e34 _ (by omega)
  · rw [if_neg (by rw [ii_le (by omega) (by omega) (by omega) (by omega)]; exact hc), gR_mk zk_205 (zr_205_15 b), rdY zk_209 (by omega) hp0 (by rw [zl_209]; omega) (by rw [zl_209]; omega), MF]
    exact e34 _ (by omega)
theorem mfeel_mk {p q : Int} (hy : Yk y) (hYm : Ym h y) (hx : x + 25 ≤ 952) (hp0 : 0 ≤ p) (hp : p < y 0 1) (hq0 : 0 ≤ q) (hq : q < y 0 1) (hd : 0 ≤ r (12 + q.toNat) ∧ r (12 + q.toNat) ≤ 9) (hr : -9 ≤ r (8 + p.toNat) ∧ r (8 + p.toNat) ≤ 9) : f_X10_feel (mk (putM h x r) b) 205 (ii x) (ii p) (ii q) = some (mk (putM h x (rs r (8 + p.toNat) (fe (r (8 + p.toNat)) (r (12 + q.toNat)) (y 6 p.toNat)))) b) := by
  have hn : y 0 1 ≤ 4 := hy.2.1.2
  have hb := (hy.2.2.2.2.2.2 p.toNat (by omega)).2.2.2
  obtain ⟨M0, M1, M3, M4, M5, MW, Mp⟩ := hYm
  obtain ⟨MF, MH, MT, MB⟩ := Mp p.toNat (by omega)
  generalize hdd : r (12 + q.toNat) = d at *
  generalize htt : y 6 p.toNat = t at *
  have e100 : ∀ z : Int, -10 ≤ z → z ≤ 10 → f_X10_feel_b100 (mk (putM h x r) b) 205 (ii x) (ii p) (ii z) = some (mk (putM h x (rs r (8 + p.toNat) (cl9 z))) b) := by
    intro z h1 h2
    unfold f_X10_feel_b100 f_X10_feel_b136
    simp only [ii_lits, ii_add, ii_neg]
    rw [gW]
    by_cases h9 : z ≤ 9
    · rw [if_pos (by rw [ii_le (by omega) (by omega) (by omega) (by omega)]; exact h9)]
      by_cases h99 : -9 ≤ z
      · rw [if_pos (by rw [ii_le (by omega) (by omega) (by omega) (by omega)]; exact h99), wrM (j := 8 + p.toNat) (by omega) (by omega) hx, show cl9 z = z by unfold cl9; omega]
      · rw [if_neg (by rw [ii_le (by omega) (by omega) (by omega) (by omega)]; exact h99), wrM (j := 8 + p.toNat) (by omega) (by omega) hx, show cl9 z = -9 by unfold cl9; omega]
    · rw [if_neg (by rw [ii_le (by omega) (by omega) (by omega) (by omega)]; exact h9), wrM (j := 8 + p.toNat) (by omega) (by omega) hx, show cl9 z = 9 by unfold cl9; omega]
  unfold f_X10_feel f_X10_feel_b97 f_X10_feel_b70 fe
  simp only [ii_lits, l64_lits, ii_add, ii_neg]
  rw [gW, rdM (j := 12 + q.toNat) (by omega) (by omega) hx, hdd, ii_l64 (by omega) (by omega), in_mk (by omega) (by omega) (by omega) (by omega) (by omega) (by omega), b2_mk, gW, rdM (j := 8 + p.toNat) (by omega) (by omega) hx]
  simp only [ii_add]
  by_cases hdr : 1 ≤ d ∧ d < 5
  · rw [if_pos (by omega : 1 ≤ d ∧ d ≤ 4), if_neg (by decide), if_pos hdr, gR_mk zk_205 (zr_205_19 b), rdY zk_213 (by omega) hp0 (by rw [zl_213]; omega) (by rw [zl_213]; omega), MB]
    by_cases ht1 : t = 1
    · rw [if_pos (by rw [ii_eq (by omega) (by omega) (by omega) (by omega)]; exact ht1), if_pos ht1, v_mk, e100 _ (by omega) (by omega)]
    · rw [if_neg (by rw [ii_eq (by omega) (by omega) (by omega) (by omega)]; exact ht1), if_neg ht1, gR_mk zk_205 (zr_205_19 b), rdY zk_213 (by omega) hp0 (by rw [zl_213]; omega) (by rw [zl_213]; omega), MB]
      by_cases ht2 : t = 2
      · rw [if_pos (by rw [ii_eq (by omega) (by omega) (by omega) (by omega)]; exact ht2), if_pos ht2, v_mk, e100 _ (by omega) (by omega)]
        rfl
      · rw [if_neg (by rw [ii_eq (by omega) (by omega) (by omega) (by omega)]; exact ht2), if_neg ht2, v_mk, e100 _ (by omega) (by omega), Int.add_zero]
  · rw [if_neg (by omega : ¬ (1 ≤ d ∧ d ≤ 4)), if_pos rfl, if_neg hdr]
    by_cases hz : r (8 + p.toNat) ≤ 0
    · rw [if_pos (by rw [ii_le (by omega) (by omega) (by omega) (by omega)]; exact hz)]
      by_cases hz0 : 0 ≤ r (8 + p.toNat)
      · rw [if_pos (by rw [ii_le (by omega) (by omega) (by omega) (by omega)]; exact hz0), v_mk, e100 _ (by omega) (by omega), Int.add_zero, if_pos (by omega)]
      · rw [if_neg (by rw [ii_le (by omega) (by omega) (by omega) (by omega)]; exact hz0), v_mk, e100 _ (by omega) (by omega), if_neg (by omega), if_neg (by omega)]
    · rw [if_neg (by rw [ii_le (by omega) (by omega) (by omega) (by omega)]; exact hz), v_mk, e100 _ (by omega) (by omega), if_neg (by omega), if_pos (by omega)]
      rfl
theorem mpull_mk (hy : Yk y) (hYm : Ym h y) (hv : Vb y g r) (hg : g ≤ 100000000) (hx : x + 25 ≤ 952) (hp : Pr y r) (ht : ¬ thr y r) : f_X10_pull (mk (putM h x r) b) 205 (ii x) = some (ii (cut y r), mk (putM h x (plr y r)) b) := by
  have hcb := cut_b hy hv hp ht
  obtain ⟨⟨p1, p2⟩, ⟨q1, q2⟩, hp4, hq4, hpq⟩ := mate_b hp hy
  have hn4 : y 0 1 ≤ 4 := hy.2.1.2
  have hL := hy.1
  have hres := hy.2.2.2.1
  obtain ⟨hvd, hvs, hva, hvg, hvw, hvt, hvp⟩ := id hv
  have hd := (hvp (mate r).toNat (by omega)).2.2.2
  have hpt := (hvp (r 18).toNat (by omega)).2.1
  have hqt := (hvp (mate r).toNat (by omega)).2.1
  have hpa := (hvp (r 18).toNat (by omega)).2.2.1
  have hpb := pe_b hy hv (p := (r 18).toNat) (by omega) hd
  have hyp := hy.2.2.2.2.2.2 (r 18).toNat (by omega)
  obtain ⟨Yf, Yh, Yt, Yb⟩ := hYm.2.2.2.2.2.2 (r 18).toNat (by omega)
  obtain ⟨⟨pp1, pp2⟩, ⟨qq1, qq2⟩, pq1, pq2⟩ := id hp
  have h1 := hy.2.2.2.2.2.2 (r 16).toNat (by omega)
  have h2 := hy.2.2.2.2.2.2 (r 17).toNat (by omega)
  have MH1 := (hYm.2.2.2.2.2.2 (r 16).toNat (by omega)).2.1
  have MH2 := (hYm.2.2.2.2.2.2 (r 17).toNat (by omega)).2.1
  have ebk : bk y (r (12 + (mate r).toNat)) = 0 ∨ bk y (r (12 + (mate r).toNat)) = 1 := by unfold bk; split <;> omega
  unfold thr at ht
  have hwj := hy.2.2.2.2.2.1 (r 19 / 100).toNat (by omega)
  have MW := hYm.2.2.2.2.2.1 (r 19 / 100).toNat (by omega)
  have key : f_X10_pull_b44 (mk (putM h x r) b) 205 (ii x) (ii (r 18)) (ii (mate r)) = some (ii (cut y r), mk (putM h x (plr y r)) b) := by
    unfold f_X10_pull_b44
    simp only [ii_lits, ii_add]
    rw [ck_mk zk_205, mpullOf_mk hy hYm hv hg hx p1 p2 q1 q2 (by omega), b2_mk]
    generalize hr0 : (if bk y (r (12 + (mate r).toNat)) = 1 then rs (rs r (4 + (r 18).toNat) (clt (r (4 + (r 18).toNat) + 2))) (4 + (mate r).toNat) (clt (r (4 + (mate r).toNat) + 2)) else r) = r0
    have he : ∀ k, k ≠ 4 + (r 18).toNat → k ≠ 4 + (mate r).toNat → r0 k = r k := by
      intro k a1 a2
      rw [← hr0]
      split
      · rw [rs_ne _ _ a2, rs_ne _ _ a1]
      · rfl
    have h3p : r0 (4 + (r 18).toNat) = clt (r (4 + (r 18).toNat) + 2 * bk y (r (12 + (mate r).toNat))) := by
      rw [← hr0]
      rcases ebk with e | e
      · rw [e, if_neg (by decide)]; unfold clt; omega
      · rw [e, if_pos rfl, rs_ne _ _ (by omega), rs_same]; rfl
    have h3q : r0 (4 + (mate r).toNat) = clt (r (4 + (mate r).toNat) + 2 * bk y (r (12 + (mate r).toNat))) := by
      rw [← hr0]
      rcases ebk with e | e
      · rw [e, if_neg (by decide)]; unfold clt; omega
      · rw [e, if_pos rfl, rs_same]; rfl
    have c1 : 0 ≤ r0 (4 + (r 18).toNat) ∧ r0 (4 + (r 18).toNat) ≤ 999 := by rw [h3p]; unfold clt; omega
    have c2 : 0 ≤ r0 (4 + (mate r).toNat) ∧ r0 (4 + (mate r).toNat) ≤ 999 := by rw [h3q]; unfold clt; omega
    have hm : 0 ≤ pe y r (r 18).toNat (r (12 + (mate r).toNat)) * r 24 ∧ pe y r (r 18).toNat (r (12 + (mate r).toNat)) * r 24 ≤ 387 := by
      have h1 : 0 ≤ pe y r (r 18).toNat (r (12 + (mate r).toNat)) * r 24 := Int.mul_nonneg (by omega) (by omega)
      have h2 : pe y r (r 18).toNat (r (12 + (mate r).toNat)) * r 24 ≤ 43 * 9 := Int.mul_le_mul hpb.2 hvt.2 (by omega) (by omega)
      omega
    rw [gW, rdM (j := 24) (by omega) (by omega) hx, he 24 (by omega) (by omega), gR_mk zk_205 (zr_205_14 b), gW, rdM (j := 19) (by omega) (by omega) hx, he 19 (by omega) (by omega), ii_div (by omega) (by omega) (by omega) (by omega), rdY zk_208 (by omega) (by omega) (by rw [zl_208]; omega) (by rw [zl_208]; omega), MW]
    unfold ps_dv
    rw [ii_lits.1, if_neg (by rw [ii_eq (by omega) (by omega) (by omega) (by omega)]; omega), ii_mul, ii_div (by omega) (by omega) (by omega) (by omega), v_mk]
    have ecut : pe y r (r 18).toNat (r (12 + (mate r).toNat)) * r 24 / y 1 (r 19 / 100).toNat = cut y r := rfl
    rw [ecut, gW, rdM (j := 19) (by omega) (by omega) hx, he 19 (by omega) (by omega), ii_add, v_mk, gW, gF, hYm.1]
    simp only [ii_mul]
    have e128 : ∀ z : Int, z = min (r 19 + cut y r) (100 * y 0 0) → f_X10_pull_b128 (mk (putM h x r0) b) 205 (ii x) (ii (r 18)) (ii (mate r)) (ii (cut y r)) 206 (ii (x + 19)) (ii z) = some (ii (cut y r), mk (putM h x (plr y r)) b) := by
      intro z hz
      unfold f_X10_pull_b128
      simp only [ii_lits, ii_add, ii_neg]
      rw [wrM (j := 19) (by omega) (by omega) hx, gW, rdM (j := 22) (by omega) (by omega) hx, rs_ne _ _ (by omega), he 22 (by omega) (by omega), gF, hYm.2.2.2.1, ii_add, wrM (j := 22) (by omega) (by omega) hx]
      generalize hr1 : rs (rs r0 19 z) 22 (r 22 + y 0 4) = r1
      have e1 : ∀ k, k ≠ 19 → k ≠ 22 → r1 k = r0 k := fun k a1 a2 => by rw [← hr1, rs_ne _ _ a2, rs_ne _ _ a1]
      rw [gR_mk zk_205 (zr_205_17 b), rdY zk_211 (by omega) p1 (by rw [zl_211]; omega) (by rw [zl_211]; omega), Yt, ck_mk zk_205, mtire_mk (j := 4 + (r 18).toNat) (by omega) (by omega) hx (by rw [e1 _ (by omega) (by omega)]; exact c1) (by omega), b1_mk, ck_mk zk_205, e1 _ (by omega) (by omega)]
      generalize hr4 : rs r1 (4 + (r 18).toNat) (clt (r0 (4 + (r 18).toNat) + y 4 (r 18).toNat)) = r4
      have e4 : ∀ k, k ≠ 4 + (r 18).toNat → r4 k = r1 k := fun k hk => by rw [← hr4]; exact rs_ne r1 _ hk
      rw [mtire_mk (j := 4 + (mate r).toNat) (by omega) (by omega) hx (by rw [e4 _ (by omega), e1 _ (by omega) (by omega)]; exact c2) (by omega), b1_mk, e4 _ (by omega), e1 _ (by omega) (by omega)]
      generalize hr5 : rs r4 (4 + (mate r).toNat) (clt (r0 (4 + (mate r).toNat) + -1)) = r5
      have e5' : ∀ k, k ≠ 4 + (mate r).toNat → r5 k = r4 k := fun k hk => by rw [← hr5]; exact rs_ne r4 _ hk
      have e5r : ∀ k, k ≠ 19 → k ≠ 22 → k ≠ 4 + (r 18).toNat → k ≠ 4 + (mate r).toNat → r5 k = r k := fun k a1 a2 a3 a4 => by rw [e5' _ a4, e4 _ a3, e1 _ a1 a2, he _ a3 a4]
      rw [ck_mk zk_205, mfeel_mk hy hYm hx p1 p2 q1 q2 (by rw [e5r _ (by omega) (by omega) (by omega) (by omega)]; exact hd) (by rw [e5r _ (by omega) (by omega) (by omega) (by omega)]; exact hpa), b1_mk, e5r (8 + (r 18).toNat) (by omega) (by omega) (by omega) (by omega), e5r (12 + (mate r).toNat) (by omega) (by omega) (by omega) (by omega)]
      generalize hr6 : rs r5 (8 + (r 18).toNat) (fe (r (8 + (r 18).toNat)) (r (12 + (mate r).toNat)) (y 6 (r 18).toNat)) = r6
      have e6 : ∀ k, k ≠ 8 + (r 18).toNat → r6 k = r5 k := fun k hk => by rw [← hr6]; exact rs_ne r5 _ hk
      have e6r : ∀ k, k ≠ 19 → k ≠ 22 → k ≠ 4 + (r 18).toNat → k ≠ 4 + (mate r).toNat → k ≠ 8 + (r 18).toNat → r6 k = r k := fun k a1 a2 a3 a4 a5 => by rw [e6 _ a5, e5r _ a1 a2 a3 a4]
      have e225 : ∀ v w : Int, v + w = (if 0 < cut y r then r 21 + (y 3 (r 16).toNat - y 3 (r 17).toNat) else r 21) → f_X10_pull_b225 (mk (putM h x r6) b) 205 (ii x) (ii (mate r)) (ii (cut y r)) 206 (ii (x + 21)) (ii v) (ii w) = some (ii (cut y r), mk (putM h x (plr y r)) b) := by
        intro v w hvw2
        unfold f_X10_pull_b225
        simp only [ii_lits, ii_add]
        rw [wrM (j := 21) (by omega) (by omega) hx, gW, rdM (j := 20) (by omega) (by omega) hx, rs_ne _ _ (by omega), e6r 20 (by omega) (by omega) (by omega) (by omega) (by omega), ii_add, wrM (j := 20) (by omega) (by omega) hx, gW, wrM (j := 18) (by omega) (by omega) hx]
        congr 4
        funext k
        unfold plr
        by_cases k18 : k = 18
        · subst k18
          rw [rs_same, if_neg (by omega), if_neg (by omega), if_neg (by omega), if_neg (by omega), if_neg (by omega), if_neg (by omega), if_neg (by omega), if_pos rfl]
        rw [rs_ne _ _ k18]
        by_cases k20 : k = 20
        · subst k20
          rw [rs_same, if_neg (by omega), if_neg (by omega), if_neg (by omega), if_neg (by omega), if_neg (by omega), if_neg (by omega), if_pos rfl]
        rw [rs_ne _ _ k20]
        by_cases k21 : k = 21
        · subst k21
          rw [rs_same, hvw2, if_neg (by omega : ¬ (21 : Nat) = 19), if_neg (by omega : ¬ (21 : Nat) = 22), if_neg (by omega : ¬ 21 = 4 + (r 18).toNat), if_neg (by omega : ¬ 21 = 4 + (mate r).toNat), if_neg (by omega : ¬ 21 = 8 + (r 18).toNat), if_pos rfl]
        rw [rs_ne _ _ k21]
        by_cases k8 : k = 8 + (r 18).toNat
        · subst k8
          rw [← hr6, rs_same, if_neg (by omega), if_neg (by omega), if_neg (by omega), if_neg (by omega), if_pos rfl]
        rw [e6 _ k8]
        by_cases kq : k = 4 + (mate r).toNat
        · subst kq
          rw [← hr5, rs_same, h3q, if_neg (by omega), if_neg (by omega), if_neg (by omega), if_pos rfl]
          rfl
        rw [e5' _ kq]
        by_cases kp : k = 4 + (r 18).toNat
        · subst kp
          rw [← hr4, rs_same, h3p, if_neg (by omega), if_neg (by omega), if_pos rfl]
        rw [e4 _ kp]
        by_cases k22 : k = 22
        · subst k22
          rw [← hr1, rs_same, if_neg (by omega), if_pos rfl]
        by_cases k19 : k = 19
        · subst k19
          rw [← hr1, rs_ne _ _ (by omega), rs_same, hz, if_pos rfl]
        rw [e1 _ k19 k22, he _ kp kq, if_neg k19, if_neg k22, if_neg kp, if_neg kq, if_neg k8, if_neg k21, if_neg k20, if_neg k18]
      rw [gW, rdM (j := 21) (by omega) (by omega) hx, e6r 21 (by omega) (by omega) (by omega) (by omega) (by omega)]
      by_cases hc : cut y r ≤ 0
      · rw [if_pos (by rw [ii_le (by omega) (by omega) (by omega) (by omega)]; exact hc), e225 _ _ (by rw [if_neg (by omega), Int.add_zero])]
      · rw [if_neg (by rw [ii_le (by omega) (by omega) (by omega) (by omega)]; exact hc), gR_mk zk_205 (zr_205_16 b), gW, rdM (j := 16) (by omega) (by omega) hx, e6r 16 (by omega) (by omega) (by omega) (by omega) (by omega), rdY zk_210 (by omega) pp1 (by rw [zl_210]; omega) (by rw [zl_210]; omega), MH1, gR_mk zk_205 (zr_205_16 b), gW, rdM (j := 17) (by omega) (by omega) hx, e6r 17 (by omega) (by omega) (by omega) (by omega) (by omega), rdY zk_210 (by omega) qq1 (by rw [zl_210]; omega) (by rw [zl_210]; omega), MH2, ii_sub, e225 _ _ (by rw [if_pos (by omega)])]
    by_cases hc : r 19 + cut y r ≤ 100 * y 0 0
    · rw [if_pos (by rw [ii_le (by omega) (by omega) (by omega) (by omega)]; exact hc), e128 _ (by omega)]
    · rw [if_neg (by rw [ii_le (by omega) (by omega) (by omega) (by omega)]; exact hc), gF, hYm.1, ii_mul, e128 _ (by omega)]
  unfold f_X10_pull
  simp only [ii_lits, ii_add]
  rw [gW, rdM (j := 18) (by omega) (by omega) hx, gW, rdM (j := 16) (by omega) (by omega) hx]
  by_cases hs : r 18 = r 16
  · rw [if_pos (by rw [hs]), gW, rdM (j := 17) (by omega) (by omega) hx]
    have : mate r = r 17 := by unfold mate; rw [if_pos hs]
    rw [← this]
    exact key
  · rw [if_neg (by rw [ii_eq (by omega) (by omega) (by omega) (by omega)]; exact hs), gW, rdM (j := 16) (by omega) (by omega) hx]
    have : mate r = r 16 := by unfold mate; rw [if_neg hs]
    rw [← this]
    exact key
end
