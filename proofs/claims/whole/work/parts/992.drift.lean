/-! by draws -/
theorem ii_and (x : Int) : ii x &&& (2147483647 : Int32) = ii (x % 2147483648) := by
  apply Int32.toBitVec_inj.mp
  unfold ii
  rw [Int32.toBitVec_and, Int32.toBitVec_ofInt, Int32.toBitVec_ofInt]
  apply BitVec.eq_of_toNat_eq
  rw [BitVec.toNat_and, BitVec.toNat_ofInt, BitVec.toNat_ofInt]
  show _ &&& (2 ^ 31 - 1) = _
  rw [Nat.and_two_pow_sub_one_eq_mod]
  omega
theorem l64_add (x y : Int) : l64 x + l64 y = l64 (x + y) := by simp [l64, Int64.ofInt_add]
theorem l64_sub (x y : Int) : l64 x - l64 y = l64 (x - y) := by simp [l64, Int64.ofInt_sub]
theorem l64_mul (x y : Int) : l64 x * l64 y = l64 (x * y) := by simp [l64, Int64.ofInt_mul]
theorem l64_div {x y : Int} (h1 : 0 ≤ x) (h2 : x < 9223372036854775808) (h3 : 0 < y) (h4 : y < 9223372036854775808) : l64 x / l64 y = l64 (x / y) := by
  rw [← Int64.toInt_inj, Int64.toInt_div, toInt_l64 (by omega) h2, toInt_l64 (by omega) h4, Int.tdiv_eq_ediv_of_nonneg h1]
  have h5 : 0 ≤ x / y := Int.ediv_nonneg h1 (by omega)
  have h6 : x / y ≤ x := Int.ediv_le_self y h1
  rw [toInt_l64 (by omega) (by omega)]
  exact Int.bmod_eq_of_le (by omega) (by omega)
theorem l64_ii {x : Int} (h1 : -2147483648 ≤ x) (h2 : x < 2147483648) : (l64 x).toInt32 = ii x := by
  rw [← Int32.toInt_inj, Int64.toInt_toInt32, toInt_l64 (by omega) (by omega), toInt_ii h1 h2]
  exact Int.bmod_eq_of_le (by omega) (by omega)
/-- the next seed, and the draw of eight -/
def nxs (s : Int) : Int := (s * 1103515245 + 12345) % 2147483648
def d8 (s : Int) : Int := s / 65536 % 8
theorem nxs_b (s : Int) : 0 ≤ nxs s ∧ nxs s < 2147483648 := by unfold nxs; omega
theorem d8_ii {s : Int} (h1 : 0 ≤ s) (h2 : s < 2147483648) : ii s / (65536 : Int32) - ii s / (65536 : Int32) / (8 : Int32) * (8 : Int32) = ii (d8 s) := by
  rw [show (65536 : Int32) = ii 65536 by decide, show (8 : Int32) = ii 8 by decide, ii_div h1 h2 (by omega) (by omega), ii_div (by omega) (by omega) (by omega) (by omega), ii_mul, ii_sub]
  unfold d8
  congr 1
  omega
theorem uI_uI (h : zM) (c k : Nat) (v w : Int32) : ps_uI (ps_uI h c k v) c k w = ps_uI h c k w := by
  funext c' k'
  unfold ps_uI
  split <;> rfl
theorem uI_putM {h : zM} {x k : Nat} {m : Nat → Int} {v : Int32} (hk : k < x ∨ x + 25 ≤ k) : ps_uI (putM h x m) 206 k v = putM (ps_uI h 206 k v) x m := by
  funext c' k'
  unfold ps_uI putM
  show (if c' = 206 ∧ k' = k then v else if c' = 206 ∧ x ≤ k' ∧ k' < x + 25 then ii (m (k' - x)) else h c' k') = (if c' = 206 ∧ x ≤ k' ∧ k' < x + 25 then ii (m (k' - x)) else if c' = 206 ∧ k' = k then v else h c' k')
  by_cases h1 : c' = 206 ∧ k' = k
  · rw [if_pos h1, if_neg (by omega), if_pos h1]
  · rw [if_neg h1, if_neg h1]
section
variable {h : zM} {b : Bool} {y : Nat → Nat → Int} {g : Int}
theorem draw_c {a : Nat} {s : Int} {r : Nat → Int} (ha : 0 < a) : f_X9_drawEighth (mk (putW (ps_uI h 0 10 (ii s)) a r) b) 0 = some (ii (d8 (nxs s)), mk (putW (ps_uI h 0 10 (ii (nxs s))) a r) b) := by
  have e : ii s * (1103515245 : Int32) + (12345 : Int32) &&& (2147483647 : Int32) = ii (nxs s) := by
    rw [show (1103515245 : Int32) = ii 1103515245 by decide, show (12345 : Int32) = ii 12345 by decide, ii_mul, ii_add, ii_and]
    rfl
  obtain ⟨b1, b2⟩ := nxs_b s
  unfold f_X9_drawEighth
  rw [gI_mk zk_0, putW_o _ _ _ (by omega), uI_s, pI_mk zk_0, e, uI_put (by omega), uI_uI, gI_mk zk_0, putW_o _ _ _ (by omega), uI_s, d8_ii b1 b2]
theorem draw_m {s : Int} {m : Nat → Int} (h1 : 0 ≤ s) (h2 : s < 2147483648) : f_X10_draw (mk (putM (ps_uI h 206 25 (ii s)) 0 m) b) 205 (8 : Int32) = some (ii (d8 (nxs s)), mk (putM (ps_uI h 206 25 (ii (nxs s))) 0 m) b) := by
  obtain ⟨b1, b2⟩ := nxs_b s
  have e : (((ii s).toInt64 * (1103515245 : Int64) + (12345 : Int64)) - ((ii s).toInt64 * (1103515245 : Int64) + (12345 : Int64)) / (2147483648 : Int64) * (2147483648 : Int64)).toInt32 = ii (nxs s) := by
    rw [ii_l64 (by omega) h2, show (1103515245 : Int64) = l64 1103515245 by decide, show (12345 : Int64) = l64 12345 by decide, show (2147483648 : Int64) = l64 2147483648 by decide, l64_mul, l64_add, l64_div (by omega) (by omega) (by omega) (by omega), l64_mul, l64_sub, show s * 1103515245 + 12345 - (s * 1103515245 + 12345) / 2147483648 * 2147483648 = nxs s by unfold nxs; omega, l64_ii (by omega) b2]
  unfold f_X10_draw ps_dv
  rw [gW, gW, show (25 : Int32) = ii 25 by decide, aI_mk zk_206 (by omega) (by rw [zl_206]; omega) (by rw [zl_206]; omega), show (25 : Int).toNat = 25 from rfl, putM_o _ _ (by omega), uI_s, e, xI_mk zk_206 (by omega) (by rw [zl_206]; omega) (by rw [zl_206]; omega), show (25 : Int).toNat = 25 from rfl, uI_putM (by omega), uI_uI, gW, aI_mk zk_206 (by omega) (by rw [zl_206]; omega) (by rw [zl_206]; omega), show (25 : Int).toNat = 25 from rfl, putM_o _ _ (by omega), uI_s, if_neg (by decide), d8_ii b1 b2]
/-- drifting, in whole numbers -/
def dft (y : Nat → Nat → Int) : Nat → (Nat → Int) → Int → (Nat → Int) × Int
  | 0, r, s => (r, s)
  | d + 1, r, s => if thr y r then (r, s) else if d8 (nxs s) = 0 then dft y d (rst r 1) (nxs s) else if d8 (nxs s) = 1 then dft y d (rs r 22 0) (nxs s) else dft y d (plr y r) (nxs s)
theorem dft_s : ∀ (d : Nat) (r : Nat → Int) (s : Int), 0 ≤ s ∧ s < 2147483648 → 0 ≤ (dft y d r s).2 ∧ (dft y d r s).2 < 2147483648 := by
  intro d
  induction d with
  | zero => intro r s h; exact h
  | succ d ih =>
    intro r s h
    unfold dft
    repeat' split
    · exact h
    · exact ih _ _ (nxs_b s)
    · exact ih _ _ (nxs_b s)
    · exact ih _ _ (nxs_b s)
theorem Ok_oil {r m : Nat → Int} (hy : Yk y) (h : Ok y g r m) (hg : 0 ≤ g) : Ok y g (rs r 22 0) (rs m 22 0) :=
  Ok_rs h (Vb_rs (g := g) (g' := g) h.1 hy.2.1.2 (by omega) (by omega) (fun _ => ⟨by omega, hg⟩) (fun a => by omega) (fun a => by omega) (fun a => by omega) (fun a => by omega)) (by omega)
theorem dft_ok (hy : Yk y) (hL : 0 < y 0 0) : ∀ (d : Nat) (g : Int) (r m : Nat → Int) (s : Int), 0 ≤ g → Ok y g r m → Pr y r → (dft y d m s).2 = (dft y d r s).2 ∧ Ok y (g + 9 * d) (dft y d r s).1 (dft y d m s).1 := by
  intro d
  induction d with
  | zero => intro g r m s hg hO hp; exact ⟨rfl, hO.up (by omega)⟩
  | succ d ih =>
    intro g r m s hg hO hp
    unfold dft
    by_cases ht : thr y r
    · rw [if_pos ht, if_pos ((req_thr hO.2.2).mpr ht)]
      exact ⟨rfl, hO.up (by omega)⟩
    · rw [if_neg ht, if_neg (fun q => ht ((req_thr hO.2.2).mp q))]
      by_cases h0 : d8 (nxs s) = 0
      · rw [if_pos h0, if_pos h0]
        have := ih (g + 1) _ _ (nxs s) (by omega) (hO.rest hy hL hp (n := 1) (by omega)) (rst_Pr hp hy.2.1.2)
        exact ⟨this.1, this.2.up (by omega)⟩
      · rw [if_neg h0, if_neg h0]
        by_cases h1 : d8 (nxs s) = 1
        · rw [if_pos h1, if_pos h1]
          have := ih g _ _ (nxs s) hg (Ok_oil hy hO hg) (Pr_rs hp (by omega))
          exact ⟨this.1, this.2.up (by omega)⟩
        · rw [if_neg h1, if_neg h1]
          have := ih (g + 9) _ _ (nxs s) (by omega) (hO.pull hy hp ht) (plr_Pr hy hp).1
          exact ⟨this.1, this.2.up (by omega)⟩
theorem drift_c (hy : Yk y) (hL : 0 < y 0 0) {h1 : zM} (hYd : Yd h1 y) : ∀ (d i m N : Nat) (g : Int) (r : Nat → Int) (s : Int), i + d = N → N ≤ 99 → d < m → 0 ≤ g → Ok y g r r → Pr y r → 0 ≤ s ∧ s < 2147483648 → g + 9 * d ≤ 90000000 → f_X9_drift_l25 m (mk (putW (ps_uI h1 0 10 (ii s)) 18 r) b) 0 (ii (N : Int)) (ii (i : Int)) = some (ii ((dft y d r s).1 19), mk (putW (ps_uI h1 0 10 (ii (dft y d r s).2)) 18 (dft y d r s).1) b) := by
  have hYs : ∀ s, Yd (ps_uI h1 0 10 (ii s)) y := fun s => Yd_c hYd (fun c k _ _ => uI_o (by omega))
  have e54 : ∀ (H : zM) (r : Nat → Int), f_X9_drift_b54 (mk (putW H 18 r) b) 0 = some (ii (r 19), mk (putW H 18 r) b) := fun H r => by
    unfold f_X9_drift_b54
    rw [g0_2, gI_mk iw_18.1, (putW_r _ _ _).2.2.2.1]
  intro d
  induction d with
  | zero =>
    intro i m N g r s hi hN hm hg0 hO hp hs hg
    obtain ⟨m', rfl⟩ : ∃ m', m = m' + 1 := ⟨m - 1, by omega⟩
    show f_X9_drift_w25 (f_X9_drift_l25 m') (mk (putW (ps_uI h1 0 10 (ii s)) 18 r) b) 0 (ii (N : Int)) (ii (i : Int)) = _
    unfold f_X9_drift_w25
    rw [if_pos (by rw [ii_le (by omega) (by omega) (by omega) (by omega)]; omega), e54]
    rfl
  | succ d ih =>
    intro i m N g r s hi hN hm hg0 hO hp hs hg
    obtain ⟨m', rfl⟩ : ∃ m', m = m' + 1 := ⟨m - 1, by omega⟩
    show f_X9_drift_w25 (f_X9_drift_l25 m') (mk (putW (ps_uI h1 0 10 (ii s)) 18 r) b) 0 (ii (N : Int)) (ii (i : Int)) = _
    unfold f_X9_drift_w25 dft
    rw [if_neg (by rw [ii_le (by omega) (by omega) (by omega) (by omega)]; omega), g0_2, g0_0, ck_mk iw_18.1, through_mk iw_18 hy (hYs s) hO.1 hL, b2_mk]
    by_cases ht : thr y r
    · rw [if_pos ht, if_neg (by decide), e54, if_pos ht]
    · have hnb := nxs_b s
      have h8 : 0 ≤ d8 (nxs s) ∧ d8 (nxs s) < 8 := by unfold d8; omega
      rw [if_neg ht, if_pos (by decide), if_neg ht, ck_mk zk_0]
      unfold f_X9_driftOnce f_X9_driftOnce_b66
      rw [ck_mk zk_0, draw_c (by omega), b2_mk]
      by_cases h0 : d8 (nxs s) = 0
      · rw [h0, if_pos (by decide), if_pos rfl, g0_2, ck_mk iw_18.1, show (1 : Int32) = ii 1 by decide, restFor_mk iw_18 hy hO.1 hp (by omega), b1_mk, b1_mk, ← ii_lits.2.1, suc_ii, v_mk]
        exact ih (i + 1) m' N (g + 1) _ (nxs s) (by omega) hN (by omega) (by omega) (Ok_rf (hO.rest hy hL hp (n := 1) (by omega))) (rst_Pr hp hy.2.1.2) hnb (by omega)
      · rw [if_neg (by rw [ii_lits.1, ii_eq (by omega) (by omega) (by omega) (by omega)]; exact h0), if_neg h0]
        by_cases hd1 : d8 (nxs s) = 1
        · rw [hd1, if_pos (by decide), if_pos rfl, g0_2, pI_mk iw_18.1, show (0 : Int32) = ii 0 by decide, (uI_w _ 18 _ _).2.2.2.2.2.2.1, b1_mk, suc_ii, v_mk]
          exact ih (i + 1) m' N g _ (nxs s) (by omega) hN (by omega) (by omega) (Ok_rf (Ok_oil hy hO hg0)) (Pr_rs hp (by omega)) hnb (by omega)
        · rw [if_neg (by rw [ii_lits.2.1, ii_eq (by omega) (by omega) (by omega) (by omega)]; exact hd1), if_neg hd1, g0_2, g0_0, ck_mk iw_18.1, once_mk iw_18 hy (hYs _) hO.1 (by omega) hp ht, b2_mk, b1_mk, suc_ii, v_mk]
          exact ih (i + 1) m' N (g + 9) _ (nxs s) (by omega) hN (by omega) (by omega) (Ok_rf (hO.pull hy hp ht)) (plr_Pr hy hp).1 hnb (by omega)
theorem drift_m (hy : Yk y) (hL : 0 < y 0 0) {h1 : zM} (hYm : Ym h1 y) : ∀ (d i m N : Nat) (g : Int) (r : Nat → Int) (s : Int), i + d = N → N ≤ 99 → d < m → 0 ≤ g → Ok y g r r → Pr y r → 0 ≤ s ∧ s < 2147483648 → g + 9 * d ≤ 90000000 → f_X10_drift_l39 m (mk (putM (ps_uI h1 206 25 (ii s)) 0 r) b) 205 (ii (N : Int)) (ii (i : Int)) = some (ii ((dft y d r s).1 19), mk (putM (ps_uI h1 206 25 (ii (dft y d r s).2)) 0 (dft y d r s).1) b) := by
  have hYs : ∀ s, Ym (ps_uI h1 206 25 (ii s)) y := fun s => Ym_c hYm (fun c k _ => uI_o (by omega))
  have e101 : ∀ (H : zM) (r : Nat → Int), f_X10_drift_b101 (mk (putM H 0 r) b) 205 = some (ii (r 19), mk (putM H 0 r) b) := fun H r => by
    unfold f_X10_drift_b101
    rw [gW, show (19 : Int32) = ii 19 by decide, rdM (j := 19) (by omega) (by omega) (by omega)]
  have z0_ : (0 : Int32) = ii ((0 : Nat) : Int) := by decide
  intro d
  induction d with
  | zero =>
    intro i m N g r s hi hN hm hg0 hO hp hs hg
    obtain ⟨m', rfl⟩ : ∃ m', m = m' + 1 := ⟨m - 1, by omega⟩
    show f_X10_drift_w39 (f_X10_drift_l39 m') (mk (putM (ps_uI h1 206 25 (ii s)) 0 r) b) 205 (ii (N : Int)) (ii (i : Int)) = _
    unfold f_X10_drift_w39
    rw [if_pos (by rw [ii_le (by omega) (by omega) (by omega) (by omega)]; omega), e101]
    rfl
  | succ d ih =>
    intro i m N g r s hi hN hm hg0 hO hp hs hg
    obtain ⟨m', rfl⟩ : ∃ m', m = m' + 1 := ⟨m - 1, by omega⟩
    show f_X10_drift_w39 (f_X10_drift_l39 m') (mk (putM (ps_uI h1 206 25 (ii s)) 0 r) b) 205 (ii (N : Int)) (ii (i : Int)) = _
    unfold f_X10_drift_w39 dft f_X10_drift_b95
    rw [if_neg (by rw [ii_le (by omega) (by omega) (by omega) (by omega)]; omega), ck_mk zk_205]
    rw [show f_X10_isThrough (mk (putM (ps_uI h1 206 25 (ii s)) 0 r) b) 205 (0 : Int32) = _ from mthrough_mk (x := 0) hy (hYs s) hO.1 (by omega), b2_mk]
    by_cases ht : thr y r
    · rw [if_pos ht, if_neg (by decide), e101, if_pos ht]
    · have hnb := nxs_b s
      have h8 : 0 ≤ d8 (nxs s) ∧ d8 (nxs s) < 8 := by unfold d8; omega
      rw [if_neg ht, if_pos (by decide), if_neg ht, ck_mk zk_205, draw_m hs.1 hs.2, b2_mk]
      by_cases h0 : d8 (nxs s) = 0
      · rw [h0, if_pos (by decide), if_pos rfl, ck_mk zk_205]
        rw [show f_X10_relax (mk (putM (ps_uI h1 206 25 (ii (nxs s))) 0 r) b) 205 (0 : Int32) (1 : Int32) = _ from mrelax_mk (x := 0) (n := 1) hy hO.1 hp (by omega) (by omega), b1_mk, suc_ii, v_mk]
        exact ih (i + 1) m' N (g + 1) _ (nxs s) (by omega) hN (by omega) (by omega) (Ok_rf (hO.rest hy hL hp (n := 1) (by omega))) (rst_Pr hp hy.2.1.2) hnb (by omega)
      · rw [if_neg (by rw [ii_lits.1, ii_eq (by omega) (by omega) (by omega) (by omega)]; exact h0), if_neg h0]
        by_cases hd1 : d8 (nxs s) = 1
        · rw [hd1, if_pos (by decide), if_pos rfl, gW, show (22 : Int32) = ii 22 by decide, show (0 : Int32) = ii 0 by decide, wrM (j := 22) (by omega) (by omega) (by omega), suc_ii, v_mk]
          exact ih (i + 1) m' N g _ (nxs s) (by omega) hN (by omega) (by omega) (Ok_rf (Ok_oil hy hO hg0)) (Pr_rs hp (by omega)) hnb (by omega)
        · rw [if_neg (by rw [ii_lits.2.1, ii_eq (by omega) (by omega) (by omega) (by omega)]; exact hd1), if_neg hd1, ck_mk zk_205]
          rw [show f_X10_pull (mk (putM (ps_uI h1 206 25 (ii (nxs s))) 0 r) b) 205 (0 : Int32) = _ from mpull_mk (x := 0) hy (hYs _) hO.1 (by omega) (by omega) hp ht, b2_mk, suc_ii, v_mk]
          exact ih (i + 1) m' N (g + 9) _ (nxs s) (by omega) hN (by omega) (by omega) (Ok_rf (hO.pull hy hp ht)) (plr_Pr hy hp).1 hnb (by omega)
end
/-- a deed that draws -/
theorem deed_s {h : zM} {y : Nat → Nat → Int} {g g' s : Int} {n t : Nat} {r m : Nat → Int} (hR : Rel g h y) (hn : n ≤ 30) (ht : t < 30) (hold : ∀ j, j < n → Ok y g (wk h (25 + 5 * ((t + 30 - n + j) % 30))) (mrow h (112 + 28 * j))) (hg : g ≤ g') (hg8 : g' ≤ 100000000) (hO : Ok y g' r m) (hs : 0 ≤ s ∧ s < 2147483648) : Rel g' (putM (ps_uI (mrem (putW (ps_uI (crem h n t) 0 10 (ii s)) 18 r) n) 206 25 (ii s)) 0 m) y := by
  have hy4 := Rel_y4 hR
  obtain ⟨hRY, hN, hS, hseen, hbook, htext, hF, hI0, hI1, hP⟩ := hR
  have o1 : ∀ c k, (c < 18 ∨ 174 < c) → ¬ (c = 0 ∧ k = 10) → ¬ (c = 205 ∧ k = 26) → ¬ (c = 206 ∧ (k < 26 ∨ 112 ≤ k)) → putM (ps_uI (mrem (putW (ps_uI (crem h n t) 0 10 (ii s)) 18 r) n) 206 25 (ii s)) 0 m c k = h c k := by
    intro c k a1 a0 a2 a3
    rw [putM_o _ _ (by omega), uI_o (by omega)]
    by_cases c206 : c = 206 ∧ 952 ≤ k
    · exact absurd c206 (by omega)
    · rw [mrem_o a2 (by omega) hn, putW_o _ _ _ (by omega), uI_o (by omega), crem_o (by omega) ht]
  refine ⟨RY_c hRY (fun c k q => o1 c k (by omega) (by omega) (by omega) (by omega)), ?_, ⟨?_, ?_⟩, Ls_c hseen (fun c k q => o1 c k (by omega) (by omega) (by omega) (by omega)), Ls_c hbook (fun c k q => o1 c k (by omega) (by omega) (by omega) (by omega)), Ls_c htext (fun c k q => o1 c k (by omega) (by omega) (by omega) (by omega)), RF_c hF (fun c k q => o1 c k (by omega) (by omega) (by omega) (by omega)), RI_up (RI_c hy4 hI0 (fun c k q => o1 c k (by omega) (by omega) (by omega) (by omega))) hg, RI_up (RI_c hy4 hI1 (fun c k q => o1 c k (by omega) (by omega) (by omega) (by omega))) hg, ?_⟩
  · unfold RN
    have e1 : wk (putM (ps_uI (mrem (putW (ps_uI (crem h n t) 0 10 (ii s)) 18 r) n) 206 25 (ii s)) 0 m) 18 = wk (putW (ps_uI (crem h n t) 0 10 (ii s)) 18 r) 18 := wk_c (fun c k a b => by rw [putM_o _ _ (by omega), uI_o (by omega), mrem_o (by omega) (by omega) hn])
    rw [e1]
    exact Ok_put hO hRY.1 hg8 _ _ 18 0
  · rw [putM_o _ _ (by omega), uI_s, putM_o _ _ (by omega), uI_o (by omega), mrem_o (by omega) (by omega) hn, putW_o _ _ _ (by omega), uI_s]
  · rw [putM_o _ _ (by omega), uI_o (by omega), mrem_o (by omega) (by omega) hn, putW_o _ _ _ (by omega), uI_s, toInt_ii (by omega) (by omega)]
    exact hs.1
  · refine RP_rem (h := h) hy4 hg hn ht hold hN ?_ ?_ ?_ ?_ ?_
    · rw [putM_o _ _ (by omega), uI_o (by omega), mrem_o (by omega) (by omega) hn, putW_o _ _ _ (by omega), uI_o (by omega)]
      unfold crem
      rw [uI_s]
    · rw [putM_o _ _ (by omega), uI_o (by omega), mrem_o (by omega) (by omega) hn, putW_o _ _ _ (by omega), uI_o (by omega)]
      unfold crem
      rw [uI_o (by omega), uI_s]
    · intro s' hs' i hi
      have e1 : wk (putM (ps_uI (mrem (putW (ps_uI (crem h n t) 0 10 (ii s)) 18 r) n) 206 25 (ii s)) 0 m) (25 + 5 * s') = wk (crem h n t) (25 + 5 * s') := wk_c (fun c k a b => by rw [putM_o _ _ (by omega), uI_o (by omega), mrem_o (by omega) (by omega) hn, putW_o _ _ _ (by omega), uI_o (by omega)])
      rw [e1]
      exact crem_wk hn ht hs' i hi
    · rw [putM_o _ _ (by omega), uI_o (by omega)]
      unfold mrem
      rw [if_pos ⟨rfl, rfl⟩]
    · intro k hk hk2
      have e : ∀ k, putW (ps_uI (crem h n t) 0 10 (ii s)) 18 r 206 k = h 206 k := fun k => by rw [putW_o _ _ _ (by omega), uI_o (by omega), crem_o (by omega) ht]
      rw [putM_o _ _ (by omega), uI_o (by omega)]
      unfold mrem
      rw [if_neg (by omega), e, e, e]
      by_cases c1 : 112 + 28 * (min n 29) ≤ k ∧ k < 140 + 28 * (min n 29)
      · rw [if_pos ⟨rfl, c1.1, c1.2⟩, if_pos c1]
      · rw [if_neg (fun q => c1 q.2), if_neg c1]
        by_cases c2 : n = 30 ∧ k < 924
        · rw [if_pos ⟨c2.1, rfl, hk, c2.2⟩, if_pos c2]
        · rw [if_neg (by omega), if_neg c2]
theorem arm15 : ps_arm15 Inv := by
  rintro k M x hk ⟨h, b, y, rfl, hR⟩
  obtain ⟨X, rfl, x1, x2⟩ := ex_ii x
  have hR0 := hR
  obtain ⟨t0, hs, hcase⟩ := sawing (b := b) hR x1 x2
  obtain ⟨hRY, hN, hS, hseen, hbook, htext, hF, hI0, hI1, hP⟩ := hR
  have hb := wk16_b hN hRY.1
  obtain ⟨n, t, hn, ht, p0, p26, p1, hold⟩ := hP
  have hy4 := hRY.1.2.1.2
  have min_ : ∀ H : zM, f_X10_in (mk H b) ((ii X).toInt64) (1 : Int64) (99 : Int64) = some (ii (if 1 ≤ X ∧ X ≤ 99 then 1 else 0), mk H b) := fun H => by
    rw [ii_l64 x1 x2, l64_lits.2.1, show (99 : Int64) = l64 99 by decide, in_mk (by omega) (by omega) (by omega) (by omega) (by omega) (by omega)]
  rcases hcase with ⟨rfl, c⟩ | ⟨rfl, c, cr⟩ | ⟨rfl, c, ⟨hL, hp⟩, hth⟩
  · refine eqv_of (r := ii (-1000000002)) (h1 := h) (h2 := h) (b1 := b) (b2 := b) ?_ ?_ (inv_of hR0)
    · unfold f_X9_drift
      rw [ck_mk zk_0, hs, b2_mk, if_neg (by decide)]
    · show f_X10_drift (mk h b) 205 (ii X) = _
      unfold f_X10_drift
      rw [min_, b2_mk, if_neg c, if_pos (by decide)]
      rfl
  · refine eqv_of (r := ii (-1000000003)) (h1 := h) (h2 := h) (b1 := b) (b2 := b) ?_ ?_ (inv_of hR0)
    · unfold f_X9_drift
      rw [ck_mk zk_0, hs, b2_mk, if_neg (by decide)]
    · show f_X10_drift (mk h b) 205 (ii X) = _
      unfold f_X10_drift
      rw [min_, b2_mk, if_pos c, if_neg (by decide), ck_mk zk_205, mpair hN hRY.1 (fun _ _ => rfl), b2_mk]
      by_cases cp : wk h 18 16 = -1
      · rw [if_pos cp, if_pos (by decide)]
        rfl
      · rw [if_neg cp, if_neg (by decide), ck_mk zk_205, show (0 : Int32) = ii 0 by decide, mthru hN hRY.1 hRY.2.2 (fun _ _ => rfl), b2_mk]
        have hth : thr y (wk h 18) := Classical.byContradiction fun q => cr ⟨hb.2.2 cp, q⟩
        rw [if_pos hth, if_neg (by decide)]
        rfl
  · obtain ⟨N, hNX⟩ : ∃ N : Nat, X = N := ⟨X.toNat, by omega⟩
    subst hNX
    have hYd1 : Yd (crem h n t) y := Yd_c hRY.2.1 (fun c k a b => crem_o (by omega) ht)
    obtain ⟨s, hs0⟩ : ∃ s : Int, (h 0 10).toInt = s := ⟨_, rfl⟩
    have hsb : 0 ≤ s ∧ s < 2147483648 := by have := hS.2; have := Int32.toInt_lt (h 0 10); omega
    have e10 : h 0 10 = ii s := by rw [← hs0, ii_toInt]
    have hdft := dft_ok hRY.1 hL N (891 * k) (wk h 18) (mrow h 0) s (by omega) hN hp
    have hse := dft_s (y := y) N (wk h 18) s hsb
    generalize hH : putW (ps_uI (crem h n t) 0 10 (ii (dft y N (wk h 18) s).2)) 18 (dft y N (wk h 18) s).1 = H
    have oH : ∀ c k, (c < 18 ∨ 174 < c) → ¬ (c = 0 ∧ k = 10) → H c k = h c k := fun c k q1 q2 => by rw [← hH, putW_o _ _ _ (by omega), uI_o (by omega), crem_o (by omega) ht]
    have hYmH : Ym H y := Ym_c hRY.2.2 (fun c k q => oH c k (by omega) (by omega))
    have em : mrow H 0 = mrow h 0 := by funext j; exact mrow_c (oH _ _ (by omega) (by omega))
    refine eqv_of (r := ii ((dft y N (wk h 18) s).1 19)) (h1 := H) (h2 := putM (ps_uI (mrem H n) 206 25 (ii (dft y N (wk h 18) s).2)) 0 (dft y N (mrow h 0) s).1) (b1 := b) (b2 := b) ?_ ?_ ⟨_, b, y, rfl, ?_⟩
    · have e0 : putW (crem h n t) 18 (wk h 18) = putW (ps_uI (crem h n t) 0 10 (ii s)) 18 (wk h 18) := by rw [uI_id (by rw [crem_o (by omega) ht]; exact e10)]
      unfold f_X9_drift
      rw [ck_mk zk_0, hs, b2_mk, if_pos (by decide), g0_3, g0_2, ck_mk zk_23, crem_mk hN hn ht p0 p1, b1_mk, e0, show f_X9_drift_l25 ps_fu (mk (putW (ps_uI (crem h n t) 0 10 (ii s)) 18 (wk h 18)) b) 0 (ii (N : Int)) 0 = _ from drift_c hRY.1 hL hYd1 N 0 ps_fu N (891 * k) (wk h 18) s (by omega) (by omega) (by unfold ps_fu; omega) (by omega) (Ok_rf hN) hp hsb (by omega), hH]
    · show f_X10_drift (mk H b) 205 (ii (N : Int)) = _
      unfold f_X10_drift
      have hYm1 : Ym (mrem H n) y := Ym_c hYmH (fun c k q => mrem_o (by omega) (by omega) hn)
      have e0 : putM (mrem H n) 0 (mrow h 0) = putM (ps_uI (mrem H n) 206 25 (ii s)) 0 (mrow h 0) := by rw [uI_id (by rw [mrem_o (by omega) (by omega) hn, oH 206 25 (by omega) (by omega), hS.1]; exact e10)]
      rw [min_, b2_mk, if_pos c, if_neg (by decide), ck_mk zk_205, mpair hN hRY.1 (fun k _ => oH 206 k (by omega) (by omega)), b2_mk, if_neg (fun q => hb.2.1 q hp : ¬ wk h 18 16 = -1), if_neg (by decide), ck_mk zk_205, show (0 : Int32) = ii 0 by decide, mthru hN hRY.1 hYmH (fun k _ => oH 206 k (by omega) (by omega)), b2_mk, if_neg hth, if_pos rfl, ck_mk zk_205, mrem_mk hn (by rw [oH 205 26 (by omega) (by omega)]; exact p26), b1_mk, em, e0, show f_X10_drift_l39 ps_fu (mk (putM (ps_uI (mrem H n) 206 25 (ii s)) 0 (mrow h 0)) b) 205 (ii (N : Int)) (ii 0) = _ from drift_m hRY.1 hL hYm1 N 0 ps_fu N (891 * k) (mrow h 0) s (by omega) (by omega) (by unfold ps_fu; omega) (by omega) (Ok_rm hN hL hp) (req_Pr hN.2.2 hp) hsb (by omega), hdft.1, hdft.2.2.2.1 19 (by omega) (by omega)]
    · rw [← hH]
      exact Rel_up (deed_s hR0 hn ht hold (by omega) (by omega) hdft.2 hse) (by omega)
