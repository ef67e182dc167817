theorem rs_same (r : Nat → Int) (k : Nat) (v : Int) : rs r k v k = v := by simp [rs]
theorem rs_ne (r : Nat → Int) {j k : Nat} (v : Int) (h : j ≠ k) : rs r k v j = r j := by simp [rs, h]
theorem mate_b {y : Nat → Nat → Int} {r : Nat → Int} (hp : Pr y r) (hy : Yk y) : (0 ≤ r 18 ∧ r 18 < y 0 1) ∧ (0 ≤ mate r ∧ mate r < y 0 1) ∧ (r 18).toNat < 4 ∧ (mate r).toNat < 4 ∧ (r 18).toNat ≠ (mate r).toNat := by
  obtain ⟨-, ⟨hn0, hn⟩, -⟩ := hy
  obtain ⟨⟨p1, p2⟩, ⟨q1, q2⟩, hne, hx⟩ := hp
  unfold mate
  split <;> omega
theorem cut_b {y : Nat → Nat → Int} {r : Nat → Int} {g : Int} (hy : Yk y) (hv : Vb y g r) (hp : Pr y r) (ht : ¬ thr y r) : 0 ≤ cut y r ∧ cut y r ≤ 387 := by
  obtain ⟨⟨p1, p2⟩, ⟨q1, q2⟩, -⟩ := mate_b hp hy
  have hv' := hv
  obtain ⟨⟨d1, d2⟩, -, -, -, -, ⟨t1, t2⟩, hvp⟩ := hv
  have hmn := (hvp (mate r).toNat (by omega)).2.2.2
  have h1 := pe_b hy hv' (p := (r 18).toNat) (by omega) hmn
  unfold thr at ht
  obtain ⟨⟨L0, L1⟩, -, -, -, -, hyw, -⟩ := hy
  obtain ⟨w1, w2⟩ := hyw (r 19 / 100).toNat (by omega)
  have h2 : 0 ≤ pe y r (r 18).toNat (r (12 + (mate r).toNat)) * r 24 := Int.mul_nonneg (by omega) (by omega)
  have h3 : pe y r (r 18).toNat (r (12 + (mate r).toNat)) * r 24 ≤ 43 * 9 := Int.mul_le_mul h1.2 t2 (by omega) (by omega)
  unfold cut pq
  refine ⟨Int.ediv_nonneg h2 (by omega), ?_⟩
  exact Int.le_trans (Int.ediv_le_self _ h2) (by omega)
section
variable {h : Nat → Nat → Int32} {b : Bool} {y : Nat → Nat → Int} {r : Nat → Int} {a : Nat} {g : Int}
theorem bottom_mk (hy : Yk y) (hh : h 1 0 = ii (y 0 0)) : f_X8_bottom (mk h b) 1 = some (ii (100 * y 0 0), mk h b) := by
  unfold f_X8_bottom
  rw [gI_mk zk_1, hh, lits2.2.1, ii_mul, Int.mul_comm]
theorem through_mk (ha : isW a) (hy : Yk y) (hYd : Yd h y) (hv : Vb y g r) (hL : 0 < y 0 0) : f_X7_isThrough (mk (putW h a r) b) a 1 = some (ii (if thr y r then 1 else 0), mk (putW h a r) b) := by
  have hy' := hy
  obtain ⟨⟨L0, L1⟩, -⟩ := hy
  obtain ⟨Y0, -⟩ := hYd
  obtain ⟨⟨d1, d2⟩, -⟩ := hv
  obtain ⟨k0, k1, k2, k3, k4, l1, l2, l3, l4, r9, r10, r11, r12, gg1, gg2, gg3⟩ := ha
  have h18 : ∀ c, c < 18 → ∀ k, putW h a r c k = h c k := fun c hc k => putW_o h a r (Or.inl (by omega)) k
  obtain ⟨w0, w1', w2', w3, w4, w5, w6, w7, w8⟩ := putW_r h a r
  unfold f_X7_isThrough
  rw [gI_mk zk_1, h18 1 (by omega), Y0, if_neg (by rw [ii_lits.1, ii_le (by omega) (by omega) (by omega) (by omega)]; omega), gI_mk k0, w3, ck_mk zk_1, bottom_mk hy' (by rw [h18 1 (by omega)]; exact Y0), b2_mk]
  unfold thr
  by_cases hc : r 19 < 100 * y 0 0
  · rw [if_pos (by rw [ii_lt (by omega) (by omega) (by omega) (by omega)]; exact hc), if_neg (by omega)]
    rfl
  · rw [if_neg (by rw [ii_lt (by omega) (by omega) (by omega) (by omega)]; exact hc), if_pos (by omega)]
    rfl
theorem once_mk (ha : isW a) (hy : Yk y) (hYd : Yd h y) (hv : Vb y g r) (hg : g ≤ 100000000) (hp : Pr y r) (ht : ¬ thr y r) : f_X7_pullOnce (mk (putW h a r) b) a 1 = some (ii (cut y r), mk (putW h a (plr y r)) b) := by
  have hcb := cut_b hy hv hp ht
  obtain ⟨⟨p1, p2⟩, ⟨q1, q2⟩, hp4, hq4, hpq⟩ := mate_b hp hy
  have hn4 : y 0 1 ≤ 4 := hy.2.1.2
  have hL : y 0 0 ≤ 12 ∧ 0 ≤ y 0 0 := ⟨hy.1.2, hy.1.1⟩
  have hres := hy.2.2.2.1
  obtain ⟨hvd, hvs, hva, hvg, -, hvt, hvp⟩ := id hv
  have hd := (hvp (mate r).toNat (by omega)).2.2.2
  have hpt := (hvp (r 18).toNat (by omega)).2.1
  have hqt := (hvp (mate r).toNat (by omega)).2.1
  have hpa := (hvp (r 18).toNat (by omega)).2.2.1
  have hpb := pe_b hy hv (p := (r 18).toNat) (by omega) hd
  have hyp := hy.2.2.2.2.2.2 (r 18).toNat (by omega)
  obtain ⟨Yf, Yh, Yt, Yb⟩ := hYd.2.2.2.2.2.2 (r 18).toNat (by omega)
  have hlb : -9 ≤ y 3 (r 16).toNat - y 3 (r 17).toNat ∧ y 3 (r 16).toNat - y 3 (r 17).toNat ≤ 9 := by
    obtain ⟨⟨a1, a2⟩, ⟨b1, b2⟩, -⟩ := hp
    have h1 := (hy.2.2.2.2.2.2 (r 16).toNat (by omega)).2.1
    have h2 := (hy.2.2.2.2.2.2 (r 17).toNat (by omega)).2.1
    omega
  have h18 : ∀ r' : Nat → Int, ∀ c, c < 18 → ∀ k, putW h a r' c k = h c k := fun r' c hc k => putW_o h a r' (Or.inl (by have := ha.2.2.2.2.2.2.2.2.2.2.2.2.2.1; omega)) k
  have hYd' : ∀ r' : Nat → Int, Yd (putW h a r') y := fun r' => by
    unfold Yd
    simp only [h18 r' 1 (by omega), h18 r' 2 (by omega), h18 r' 3 (by omega), h18 r' 4 (by omega), h18 r' 5 (by omega), h18 r' 7 (by omega)]
    exact hYd
  have k0 := ha.1
  obtain ⟨k1, k2, k3, k4, l1, l2, l3, l4, r9, r10, r11, r12, gg1, gg2, gg3⟩ := ha.2
  have w := putW_r h a
  obtain ⟨e999, e100, e10, e5, e2, e1, e0, e9, e99, em1⟩ := lits2
  have key : f_X7_pullOnce_b24 (mk (putW h a r) b) a 1 (ii (r 18)) (ii (mate r)) = some (ii (cut y r), mk (putW h a (plr y r)) b) := by
    unfold f_X7_pullOnce_b24
    rw [gR_mk k0 (r10 b), at_mk k2 q1 (by omega) (by omega), b2_mk, putW_2 _ _ _ hq4, ck_mk k0, pullOf_mk ha hy hYd hv hg p1 p2 hd, b2_mk, ck_mk k0, cutBy_mk ha hy hYd hv ht hpb, b2_mk]
    have ecut : pe y r (r 18).toNat (r (12 + (mate r).toNat)) * r 24 / y 1 (r 19 / 100).toNat = cut y r := rfl
    rw [ecut, gI_mk k0, (w r).2.2.2.1, ck_mk zk_1, bottom_mk hy (by rw [h18 r 1 (by omega)]; exact hYd.1), b2_mk, ii_add, ii_min (by omega) (by omega) (by omega) (by omega), v_mk, pI_mk k0, (uI_w h a r _).2.2.2.1]
    generalize hr1 : rs r 19 (min (r 19 + cut y r) (100 * y 0 0)) = r1
    have e1n : ∀ k, k ≠ 19 → r1 k = r k := fun k hk => by rw [← hr1]; exact rs_ne r _ hk
    rw [gI_mk k0, (w r1).2.2.2.2.2.2.1, gI_mk zk_1, h18 r1 1 (by omega), hYd.2.2.2.1, ii_add, pI_mk k0, (uI_w h a r1 _).2.2.2.2.2.2.1, e1n 22 (by omega)]
    generalize hr2 : rs r1 22 (r 22 + y 0 4) = r2
    have e2n : ∀ k, k ≠ 19 → k ≠ 22 → r2 k = r k := fun k hk hk2 => by rw [← hr2, rs_ne r1 _ hk2]; exact e1n k hk
    have h19 : r2 19 = min (r 19 + cut y r) (100 * y 0 0) := by rw [← hr2, rs_ne r1 _ (by omega), ← hr1, rs_same]
    have h22 : r2 22 = r 22 + y 0 4 := by rw [← hr2, rs_same]
    rw [buckles_mk hd hy (by rw [h18 r2 1 (by omega)]; exact hYd.2.2.1), b2_mk]
    have ebk : bk y (r (12 + (mate r).toNat)) = 0 ∨ bk y (r (12 + (mate r).toNat)) = 1 := by unfold bk; split <;> omega
    -- what follows, from any row that has the two tired ones
    have e102 : ∀ r3 : Nat → Int, (∀ k, k ≠ 19 → k ≠ 22 → k ≠ 4 + (r 18).toNat → k ≠ 4 + (mate r).toNat → r3 k = r k) → r3 19 = min (r 19 + cut y r) (100 * y 0 0) → r3 22 = r 22 + y 0 4 → r3 (4 + (r 18).toNat) = clt (r (4 + (r 18).toNat) + 2 * bk y (r (12 + (mate r).toNat))) → r3 (4 + (mate r).toNat) = clt (r (4 + (mate r).toNat) + 2 * bk y (r (12 + (mate r).toNat))) →
        f_X7_pullOnce_b102 (mk (putW h a r3) b) a 1 (ii (r 18)) (ii (mate r)) (ii (r (12 + (mate r).toNat))) (ii (cut y r)) = some (ii (cut y r), mk (putW h a (plr y r)) b) := by
      intro r3 he h319 h322 h3p h3q
      have c1 : 0 ≤ r3 (4 + (r 18).toNat) ∧ r3 (4 + (r 18).toNat) ≤ 999 := by rw [h3p]; unfold clt; omega
      have c2 : 0 ≤ r3 (4 + (mate r).toNat) ∧ r3 (4 + (mate r).toNat) ≤ 999 := by rw [h3q]; unfold clt; omega
      unfold f_X7_pullOnce_b102
      rw [gR_mk zk_1 (zr_1_9 b), at_mk zk_5 p1 (by rw [zl_5]; omega) (by rw [zl_5]; omega), b2_mk, h18 r3 5 (by omega), Yt, ck_mk k0, tire_mk ha p1 (by omega) c1.1 c1.2 (by omega) (by omega), b1_mk, ck_mk k0]
      generalize hr4 : rs r3 (4 + (r 18).toNat) (clt (r3 (4 + (r 18).toNat) + y 4 (r 18).toNat)) = r4
      have e4 : ∀ k, k ≠ 4 + (r 18).toNat → r4 k = r3 k := fun k hk => by rw [← hr4]; exact rs_ne r3 _ hk
      rw [em1, tire_mk ha q1 (by omega) (by rw [e4 _ (by omega)]; exact c2.1) (by rw [e4 _ (by omega)]; exact c2.2) (by omega) (by omega), b1_mk, e4 _ (by omega)]
      generalize hr5 : rs r4 (4 + (mate r).toNat) (clt (r3 (4 + (mate r).toNat) + -1)) = r5
      have e5' : ∀ k, k ≠ 4 + (mate r).toNat → r5 k = r4 k := fun k hk => by rw [← hr5]; exact rs_ne r4 _ hk
      have h8 : r5 (8 + (r 18).toNat) = r (8 + (r 18).toNat) := by rw [e5' _ (by omega), e4 _ (by omega), he _ (by omega) (by omega) (by omega) (by omega)]
      rw [gR_mk zk_1 (zr_1_11 b), at_mk zk_7 p1 (by rw [zl_7]; omega) (by rw [zl_7]; omega), b2_mk, h18 r5 7 (by omega), Yb, ck_mk k0, feel_mk ha p1 (by omega) hd hyp.2.2.2 (by rw [h8]; exact hpa), b1_mk, h8]
      generalize hr6 : rs r5 (8 + (r 18).toNat) (fe (r (8 + (r 18).toNat)) (r (12 + (mate r).toNat)) (y 6 (r 18).toNat)) = r6
      have e6 : ∀ k, k ≠ 8 + (r 18).toNat → r6 k = r5 k := fun k hk => by rw [← hr6]; exact rs_ne r5 _ hk
      have e6r : ∀ k, k ≠ 19 → k ≠ 22 → k ≠ 4 + (r 18).toNat → k ≠ 4 + (mate r).toNat → k ≠ 8 + (r 18).toNat → r6 k = r k := fun k a1 a2 a3 a4 a5 => by rw [e6 _ a5, e5' _ a4, e4 _ a3, he _ a1 a2 a3 a4]
      have hP6 : Pr y r6 := by
        unfold Pr
        rw [e6r 16 (by omega) (by omega) (by omega) (by omega) (by omega), e6r 17 (by omega) (by omega) (by omega) (by omega) (by omega), e6r 18 (by omega) (by omega) (by omega) (by omega) (by omega)]
        exact hp
      have e155 : ∀ r7 : Nat → Int, (∀ k, k ≠ 21 → r7 k = r6 k) → r7 21 = (if 0 < cut y r then r 21 + (y 3 (r 16).toNat - y 3 (r 17).toNat) else r 21) → f_X7_pullOnce_b155 (mk (putW h a r7) b) a (ii (mate r)) (ii (cut y r)) = some (ii (cut y r), mk (putW h a (plr y r)) b) := by
        intro r7 e7 h21
        unfold f_X7_pullOnce_b155
        rw [gI_mk k0, (w r7).2.2.2.2.1, e1, ii_add, pI_mk k0, (uI_w h a r7 _).2.2.2.2.1, pI_mk k0, (uI_w h a _ _).2.2.1, e7 20 (by omega), e6r 20 (by omega) (by omega) (by omega) (by omega) (by omega)]
        congr 4
        funext k
        unfold plr
        by_cases k18 : k = 18
        · subst k18
          rw [rs_same, if_neg (by omega), if_neg (by omega), if_neg (by omega), if_neg (by omega), if_neg (by omega), if_neg (by omega), if_neg (by omega), if_pos rfl]
        rw [rs_ne _ _ k18]
        by_cases k20 : k = 20
        · subst k20
          rw [rs_same, if_neg (by omega), if_neg (by omega), if_neg (by omega), if_neg (by omega), if_neg (by omega), if_neg (by omega), if_pos rfl]
        rw [rs_ne _ _ k20]
        by_cases k21 : k = 21
        · subst k21
          rw [h21, if_neg (by omega : ¬ (21 : Nat) = 19), if_neg (by omega : ¬ (21 : Nat) = 22), if_neg (by omega : ¬ 21 = 4 + (r 18).toNat), if_neg (by omega : ¬ 21 = 4 + (mate r).toNat), if_neg (by omega : ¬ 21 = 8 + (r 18).toNat), if_pos rfl]
        rw [e7 _ k21]
        by_cases k8 : k = 8 + (r 18).toNat
        · subst k8
          rw [← hr6, rs_same, if_neg (by omega), if_neg (by omega), if_neg (by omega), if_neg (by omega), if_pos rfl]
        rw [e6 _ k8]
        by_cases kq : k = 4 + (mate r).toNat
        · subst kq
          rw [← hr5, rs_same, h3q, if_neg (by omega), if_neg (by omega), if_neg (by omega), if_pos rfl]
          rfl
        rw [e5' _ kq]
        by_cases kp : k = 4 + (r 18).toNat
        · subst kp
          rw [← hr4, rs_same, h3p, if_neg (by omega), if_neg (by omega), if_pos rfl]
        rw [e4 _ kp]
        by_cases k22 : k = 22
        · subst k22
          rw [h322, if_neg (by omega), if_pos rfl]
        by_cases k19 : k = 19
        · subst k19
          rw [h319, if_pos rfl]
        rw [he _ k19 k22 kp kq, if_neg k19, if_neg k22, if_neg kp, if_neg kq, if_neg k8, if_neg k21, if_neg k20, if_neg k18]
      rw [e0]
      by_cases hc : cut y r ≤ 0
      · rw [if_pos (by rw [ii_le (by omega) (by omega) (by omega) (by omega)]; exact hc), e155 r6 (fun _ _ => rfl) (by rw [if_neg (by omega)]; exact e6r 21 (by omega) (by omega) (by omega) (by omega) (by omega))]
      · rw [if_neg (by rw [ii_le (by omega) (by omega) (by omega) (by omega)]; exact hc), gI_mk k0, (w r6).2.2.2.2.2.1, ck_mk k0, lean_mk ha hy hYd hP6, b2_mk, ii_add, pI_mk k0, (uI_w h a r6 _).2.2.2.2.2.1, e155 _ (fun k hk => rs_ne r6 _ hk) (by rw [rs_same, if_pos (by omega), e6r 21 (by omega) (by omega) (by omega) (by omega) (by omega), e6r 16 (by omega) (by omega) (by omega) (by omega) (by omega), e6r 17 (by omega) (by omega) (by omega) (by omega) (by omega)])]
    rcases ebk with hb0 | hb1
    · rw [hb0, e0, if_pos rfl, e102 r2 (fun k a1 a2 _ _ => e2n k a1 a2) h19 h22 (by rw [e2n _ (by omega) (by omega), hb0]; unfold clt; omega) (by rw [e2n _ (by omega) (by omega), hb0]; unfold clt; omega)]
    · rw [hb1, if_neg (by decide), ck_mk k0, e2, tire_mk ha p1 (by omega) (by rw [e2n _ (by omega) (by omega)]; exact hpt.1) (by rw [e2n _ (by omega) (by omega)]; exact hpt.2) (by omega) (by omega), b1_mk, ck_mk k0, tire_mk ha q1 (by omega) (by rw [rs_ne _ _ (by omega), e2n _ (by omega) (by omega)]; exact hqt.1) (by rw [rs_ne _ _ (by omega), e2n _ (by omega) (by omega)]; exact hqt.2) (by omega) (by omega), b1_mk]
      rw [e102 _ (fun k a1 a2 a3 a4 => by rw [rs_ne _ _ a4, rs_ne _ _ a3, e2n k a1 a2]) (by rw [rs_ne _ _ (by omega), rs_ne _ _ (by omega), h19]) (by rw [rs_ne _ _ (by omega), rs_ne _ _ (by omega), h22]) (by rw [rs_ne _ _ (by omega), rs_same, e2n _ (by omega) (by omega), hb1]; rfl) (by rw [rs_same, rs_ne _ _ (by omega), e2n _ (by omega) (by omega), hb1]; rfl)]
  unfold f_X7_pullOnce
  rw [gI_mk k0, (w r).2.2.1, gI_mk k0, (w r).1]
  obtain ⟨⟨x1, x2⟩, ⟨x3, x4⟩, x5, x6⟩ := hp
  by_cases hs : r 18 = r 16
  · rw [if_pos (by rw [hs]), gI_mk k0, (w r).2.1]
    have : mate r = r 17 := by unfold mate; rw [if_pos hs]
    rw [← this]
    exact key
  · rw [if_neg (by rw [ii_eq (by omega) (by omega) (by omega) (by omega)]; exact hs), gI_mk k0, (w r).1]
    have : mate r = r 16 := by unfold mate; rw [if_neg hs]
    rw [← this]
    exact key
end
