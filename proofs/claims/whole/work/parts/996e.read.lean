/-! the text, read by the class -/
section
variable {H : zM} {b : Bool} {t : Nat → Int} {n : Nat} {S : rS} {y : yS}
theorem fow_c {c : Int} (hD : Dc H y) (hY : YK y) (hc : -1 ≤ c ∧ c ≤ 255) : f_X3_faultOfWord (mk H b) 8 (ii c) = some (ii (fow y c), mk H b) := by
  obtain ⟨⟨d0, d1, -⟩, ⟨d6, d7⟩, -⟩ := hD
  obtain ⟨⟨a0, a1, -⟩, -, ⟨b6, b7⟩, -⟩ := hY
  have e108 : (ii c = (108 : Int32)) ↔ c = 108 := by rw [show (108 : Int32) = ii 108 by decide]; exact ii_eq (by omega) (by omega) (by omega) (by omega)
  have e112 : (ii c = (112 : Int32)) ↔ c = 112 := by rw [show (112 : Int32) = ii 112 by decide]; exact ii_eq (by omega) (by omega) (by omega) (by omega)
  have e115 : (ii c = (115 : Int32)) ↔ c = 115 := by rw [show (115 : Int32) = ii 115 by decide]; exact ii_eq (by omega) (by omega) (by omega) (by omega)
  have e99 : (ii c = (99 : Int32)) ↔ c = 99 := by rw [show (99 : Int32) = ii 99 by decide]; exact ii_eq (by omega) (by omega) (by omega) (by omega)
  have eL : (ii (y 0 0) ≤ (0 : Int32)) ↔ y 0 0 ≤ 0 := by rw [show (0 : Int32) = ii 0 by decide]; exact ii_le (by omega) (by omega) (by omega) (by omega)
  have eM : ((0 : Int32) < ii (y 0 0)) ↔ 0 < y 0 0 := by rw [show (0 : Int32) = ii 0 by decide]; exact ii_lt (by omega) (by omega) (by omega) (by omega)
  have eP : ((4 : Int32) ≤ ii (y 0 1)) ↔ 4 ≤ y 0 1 := by rw [show (4 : Int32) = ii 4 by decide]; exact ii_le (by omega) (by omega) (by omega) (by omega)
  have eS : (ii (y 0 6) = (0 : Int32)) ↔ y 0 6 = 0 := by rw [show (0 : Int32) = ii 0 by decide]; exact ii_eq (by omega) (by omega) (by omega) (by omega)
  have eC : (ii (y 0 7) = (0 : Int32)) ↔ y 0 7 = 0 := by rw [show (0 : Int32) = ii 0 by decide]; exact ii_eq (by omega) (by omega) (by omega) (by omega)
  have n10 : ¬ (1 : Int32) = 0 := by decide
  unfold f_X3_faultOfWord f_X3_faultOfWord_b34 f_X3_faultOfWord_b38 f_X3_faultOfWord_b39 f_X3_faultOfWord_b62 f_X3_faultOfWord_b79 f_X3_faultOfWord_b92 f_X3_faultOfWord_b109 f_X3_faultOfWord_b105 f_X3_faultOfWord_b110 f_X3_faultOfWord_b120
  simp only [gR_mk zk_8 (zr_8_1 b), gI_mk zk_11, gI_mk zk_8, d0, d1, d6, d7, e108, e112, e115, e99, eL, eM, eP, eS, eC, n10, if_true, if_false]
  have nL : (y 0 0 ≤ 0) ↔ ¬ (0 < y 0 0) := by omega
  have n6 : (y 0 6 = 1) ↔ ¬ (y 0 6 = 0) := by omega
  have n7 : (y 0 7 = 1) ↔ ¬ (y 0 7 = 0) := by omega
  unfold fow
  simp only [nL, n6, n7]
  rcases (by omega : c = 108 ∨ c = 112 ∨ c = 115 ∨ c = 99 ∨ (¬ c = 108 ∧ ¬ c = 112 ∧ ¬ c = 115 ∧ ¬ c = 99)) with rfl | rfl | rfl | rfl | ⟨q1, q2, q3, q4⟩
  · by_cases qL : 0 < y 0 0
    · simp [qL]; try rfl
    · simp [qL]; try rfl
  · by_cases qL : 0 < y 0 0
    · by_cases qP : 4 ≤ y 0 1
      · simp [qL, qP]; try rfl
      · simp [qL, qP]; try rfl
    · simp [qL]; try rfl
  · by_cases qL : 0 < y 0 0
    · by_cases qP : y 0 6 = 0
      · simp [qL, qP]; try rfl
      · simp [qL, qP]; try rfl
    · simp [qL]; try rfl
  · by_cases qL : 0 < y 0 0
    · by_cases qP : y 0 7 = 0
      · simp [qL, qP]; try rfl
      · simp [qL, qP]; try rfl
    · simp [qL]; try rfl
  · simp [q1, q2, q3, q4]; try rfl
theorem clause_c (hT : Tx t n H) (hR : Rd H S) (hf : fok n S) (hD : Dc H y) (hY : YK y) : ∃ H', f_X3_readClause (mk H b) 8 = some (mk H' b) ∧ Rd H' (cl t n S y).1 ∧ Dc H' (cl t n S y).2 ∧ rg H H' := by
  have hb := mkk_b hT S.1
  obtain ⟨w1, w2⟩ := fow_k y (mkk t n S.1)
  have a00 := hY.1.1
  have a01 := hY.1.2.1
  unfold f_X3_readClause cl
  rw [gR_mk zk_8 (zr_8_0 b), gI_mk zk_8, hR.1, ck_mk zk_9, tmark_c hT hf.1, b2_mk, ck_mk zk_8, fow_c hD hY hb, b2_mk]
  by_cases q : fow y (mkk t n S.1) = 0
  · have hlt := mkk_i (t := t) (n := n) (p := S.1) (by have := w2 q; omega)
    have hf1 : fok n (S.1 + 1, S.2) := ⟨hlt, hf.2⟩
    have g1 : rg H (ps_uI H 8 4 (ii ((S.1 + 1 : Nat) : Int))) := rg_u (by omega)
    have hR1 : Rd (ps_uI H 8 4 (ii ((S.1 + 1 : Nat) : Int))) (S.1 + 1, S.2) := ⟨uI_s, by rw [uI_o (by omega)]; exact hR.2.1, by rw [uI_o (by omega)]; exact hR.2.2⟩
    have hD1 : Dc (ps_uI H 8 4 (ii ((S.1 + 1 : Nat) : Int))) y := Dc_rf hD (fun c k q => uI_o (by omega))
    have hT1 := Tx_rg hT g1
    rw [if_pos (by rw [q]; rfl), if_neg (by rw [q]; decide), gI_mk zk_8, hR.1, pI_mk zk_8, show (ii (S.1 : Int) + (1 : Int32)) = ii ((S.1 + 1 : Nat) : Int) from suc_ii _]
    generalize ps_uI H 8 4 (ii ((S.1 + 1 : Nat) : Int)) = H1 at *
    by_cases q1 : mkk t n S.1 = 108
    · obtain ⟨H', f1, r1, d1, o1⟩ := layers_c (b := b) 12 0 ps_fu H1 (S.1 + 1, S.2) y (by omega) (by unfold ps_fu; omega) hT1 hR1 hf1 hD1 (by have := w2 q; omega)
      rw [if_pos (by rw [q1]; decide), if_pos q1, ck_mk zk_8, show f_X3_readLayers (mk H1 b) 8 = _ from f1, b1_mk]
      exact ⟨H', rfl, r1, d1, rg_tr g1 o1⟩
    · rw [if_neg (by rw [show (108 : Int32) = ii 108 by decide, ii_eq (by omega) (by omega) (by omega) (by omega)]; exact q1), if_neg q1]
      by_cases q2 : mkk t n S.1 = 112
      · obtain ⟨H', f1, r1, d1, o1⟩ := person_c (b := b) hT1 hR1 hf1 hD1 (by have := w2 q; omega)
        rw [if_pos (by rw [q2]; decide), if_pos q2, ck_mk zk_8, f1, b1_mk]
        exact ⟨H', rfl, r1, d1, rg_tr g1 o1⟩
      · rw [if_neg (by rw [show (112 : Int32) = ii 112 by decide, ii_eq (by omega) (by omega) (by omega) (by omega)]; exact q2), if_neg q2]
        by_cases q3 : mkk t n S.1 = 115
        · obtain ⟨H', f1, r1, d1, o1⟩ := saw_c (b := b) hT1 hR1 hf1 hD1
          rw [if_pos (by rw [q3]; decide), if_pos q3, ck_mk zk_8, f1, b1_mk]
          exact ⟨H', rfl, r1, d1, rg_tr g1 o1⟩
        · obtain ⟨H', f1, r1, d1, o1⟩ := closes_c (b := b) (f := fun M => f_X3_readClause_b120 M) hT1 hR1 hf1 hD1
          rw [if_neg (by rw [show (115 : Int32) = ii 115 by decide, ii_eq (by omega) (by omega) (by omega) (by omega)]; exact q3), if_neg q3]
          exact ⟨H', f1, r1, d1, rg_tr g1 o1⟩
  · obtain ⟨H', f1, r1, o1⟩ := mark_c (b := b) (k := fow y (mkk t n S.1)) (w := (S.1 : Int)) hR hf q
    rw [if_neg (by rw [show (0 : Int32) = ii 0 by decide, ii_eq (by omega) (by omega) (by omega) (by omega)]; exact q), if_pos q, gI_mk zk_8, hR.1, ck_mk zk_8, f1, b1_mk]
    exact ⟨H', rfl, r1, Dc_rf hD o1, rf_rg o1⟩
theorem text_c : ∀ (d i mm : Nat) (H : zM) (S : rS) (y : yS), i + d = 251 → d < mm → Tx t n H → Rd H S → fok n S → Dc H y → (S.2.1 = 0 → YK y) → ∃ H', f_X3_readText_l34 mm (mk H b) 8 (ii (i : Int)) = some (mk (ps_uI H' 9 1 (ii 0)) b) ∧ Rd H' (run t n d S y).1 ∧ Dc H' (run t n d S y).2 ∧ rg H H' := by
  have e79 : ∀ H : zM, f_X3_readText_b79 (mk H b) 8 = some (mk (ps_uI H 9 1 (ii 0)) b) := fun H => by
    unfold f_X3_readText_b79 f_X5_clear
    rw [gR_mk zk_8 (zr_8_0 b), ck_mk zk_9, pI_mk zk_9]
    rfl
  intro d
  induction d with
  | zero =>
    intro i mm H S y he hmm hT hR hf hD hY
    obtain ⟨m', rfl⟩ : ∃ m', mm = m' + 1 := ⟨mm - 1, by omega⟩
    refine ⟨H, ?_, hR, hD, fun _ _ _ => rfl⟩
    show f_X3_readText_w34 (f_X3_readText_l34 m') (mk H b) 8 (ii (i : Int)) = _
    unfold f_X3_readText_w34
    rw [if_pos (by rw [show (250 : Int32) = ii 250 by decide, ii_lt (by omega) (by omega) (by omega) (by omega)]; omega), e79]
  | succ d ih =>
    intro i mm H S y he hmm hT hR hf hD hY
    obtain ⟨m', rfl⟩ : ∃ m', mm = m' + 1 := ⟨mm - 1, by omega⟩
    have hn := hT.1
    have hfk := hf.2
    show ∃ H', f_X3_readText_w34 (f_X3_readText_l34 m') (mk H b) 8 (ii (i : Int)) = _ ∧ _
    unfold f_X3_readText_w34 run
    rw [if_neg (by rw [show (250 : Int32) = ii 250 by decide, ii_lt (by omega) (by omega) (by omega) (by omega)]; omega), gI_mk zk_8, hR.2.1, show (0 : Int32) = ii 0 by decide]
    by_cases q : S.2.1 = 0
    · obtain ⟨H1, f1, r1, o1⟩ := skipb_c (b := b) hT hR hf.1
      have hs := sk_b (t := t) hf.1
      have hf1 : fok n (sk t n S.1, S.2) := ⟨hs.2, hf.2⟩
      have hT1 := Tx_rf hT o1
      have hD1 := Dc_rf hD o1
      rw [if_pos (by rw [q]), if_pos q, ck_mk zk_8, f1, b1_mk, gI_mk zk_8, r1.1, gR_mk zk_8 (zr_8_0 b), gI_mk zk_9, hT1.2.1]
      by_cases q2 : sk t n S.1 < n
      · obtain ⟨H2, f2, r2, d2, o2⟩ := clause_c (b := b) hT1 r1 hf1 hD1 (hY q)
        obtain ⟨H3, f3, r3, d3, o3⟩ := ih (i + 1) m' H2 _ _ (by omega) (by omega) (Tx_rg hT1 o2) r2 (cl_f hn hf1).1 d2 (cl_Y hn hf1 (hY q))
        rw [if_pos (by show ii (sk t n S.1 : Int) < ii (n : Int); rw [ii_lt (by omega) (by omega) (by omega) (by omega)]; omega), if_pos q2, ck_mk zk_8, f2, b1_mk, suc_ii, v_mk]
        exact ⟨H3, f3, r3, d3, rg_tr (rg_tr (rf_rg o1) o2) o3⟩
      · rw [if_neg (by show ¬ ii (sk t n S.1 : Int) < ii (n : Int); rw [ii_lt (by omega) (by omega) (by omega) (by omega)]; omega), if_neg q2, e79]
        exact ⟨H1, rfl, r1, hD1, rf_rg o1⟩
    · rw [if_neg (by rw [ii_eq (by omega) (by omega) (by omega) (by omega)]; exact q), if_neg q, e79]
      exact ⟨H, rfl, hR, hD, fun _ _ _ => rfl⟩
end
def yN : yS := fun c k => if c = 0 ∧ k = 2 then 5 else if c = 0 ∧ k = 3 then 2 else if c = 0 ∧ k = 5 then 12 else 0
def sN : rS := (0, 0, -1)
theorem YK_N : YK yN := by
  refine ⟨⟨by decide, by decide, by decide, by decide, by decide, fun j hj => ?_, fun p hp => ?_⟩, by decide, by decide, fun p hp => ?_⟩
  · exact absurd hj (by show ¬ (j : Int) < 0; omega)
  · exact absurd hp (by show ¬ (p : Int) < 0; omega)
  · exact absurd hp (by show ¬ (p : Int) < 0; omega)
theorem fok_N {n : Nat} : fok n sN := ⟨Nat.zero_le _, by decide, by decide, by decide, by decide⟩
theorem readText_c {H : zM} {b : Bool} {t : Nat → Int} {n : Nat} (hT : Tx t n H) : ∃ H', f_X3_readText (mk H b) 8 = some (mk (ps_uI H' 9 1 (ii 0)) b) ∧ Rd H' (run t n 251 sN yN).1 ∧ Dc H' (run t n 251 sN yN).2 ∧ rg H H' := by
  have g : rg H (ps_uI (ps_uI (ps_uI (ps_uI (ps_uI (ps_uI (ps_uI (ps_uI (ps_uI (ps_uI (ps_uI H 11 0 0) 11 1 0) 11 2 5) 11 3 2) 11 4 0) 11 5 12) 8 2 0) 8 3 (-1)) 8 4 0) 8 5 0) 8 6 0) := fun c k q => by
    rw [uI_o (by omega), uI_o (by omega), uI_o (by omega), uI_o (by omega), uI_o (by omega), uI_o (by omega), uI_o (by omega), uI_o (by omega), uI_o (by omega), uI_o (by omega), uI_o (by omega)]
  obtain ⟨H', f1, r1, d1, o1⟩ := text_c (b := b) 251 0 ps_fu _ sN yN (by omega) (by unfold ps_fu; omega) (Tx_rg hT g) ⟨rfl, rfl, rfl⟩ fok_N ⟨⟨rfl, rfl, rfl, rfl, rfl, rfl⟩, ⟨rfl, rfl⟩, fun j hj => absurd hj (by show ¬ (j : Int) < 0; omega), fun p hp => absurd hp (by show ¬ (p : Int) < 0; omega)⟩ (fun _ => YK_N)
  refine ⟨H', ?_, r1, d1, rg_tr g o1⟩
  unfold f_X3_readText f_X8_clear
  rw [gR_mk zk_8 (zr_8_1 b), ck_mk zk_11, pI_mk zk_11, pI_mk zk_11, pI_mk zk_11, pI_mk zk_11, pI_mk zk_11, pI_mk zk_11, b1_mk, pI_mk zk_8, pI_mk zk_8, pI_mk zk_8, pZ_mk zk_8 (Or.inl rfl), pZ_mk zk_8 (Or.inl rfl)]
  exact f1
