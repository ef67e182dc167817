/-! who it was: pairs in their order -/
def einn (F : Nat → Nat → Int) (X : Int) (a : Nat) (K : Int → Int) : Nat → Nat → Int → Int
  | 0, _, c => K c
  | d + 1, e, c => if a = e then einn F X a K d (e + 1) c else if F a e = -1 then (if c = X then 10 * a + e else einn F X a K d (e + 1) (c + 1)) else einn F X a K d (e + 1) c
def eout (F : Nat → Nat → Int) (X : Int) (N : Nat) : Nat → Nat → Int → Int
  | 0, _, c => if X = -1 then c else -1
  | d + 1, a, c => einn F X a (fun c => eout F X N d (a + 1) c) N 0 c
section
variable {h : zM} {b : Bool} {y : Nat → Nat → Int} {g : Int} {cs : Nat → Int} {n N : Nat} {X : Int}
theorem suc_ii (i : Nat) : ii (i : Int) + 1 = ii ((i + 1 : Nat) : Int) := by rw [ii_lits.2.1, ii_add]; rfl
theorem fits_c {h' : zM} {p q : Int} (hR : Rel g h y) (hg0 : 0 ≤ g) (hg : g ≤ 80000000) (hL : 0 < y 0 0) (h2 : two y p q) (hs : Sh h b 189 190 cs n) (hsw : sw h h') : ∃ h1, f_X6_fits (mk h' b) 175 1 18 (ii p) (ii q) 189 = some (ii (if fw y cs n (frs h p q) 0 = -1 then 1 else 0), mk h1 b) ∧ sw h h1 := by
  have hR' := Rel_sc hR (sw_sc hsw)
  have hT := frs_tw hR' hg0 h2 hL
  obtain ⟨r', f⟩ := firstWrong_c (b := b) hR.1.1 hR'.1.2.1 hL (Sh_sw hs (by omega) hsw) hT.1 hT.2.2.1 (by omega)
  rw [frs_sc (sw_sc hsw)] at f
  refine ⟨putW h' 176 r', ?_, fun c k q => by rw [putW_o _ _ _ (by omega), hsw c k q]⟩
  have hb := fw_b (y := y) (cs := cs) n 0 (frs h p q)
  have hn20 := hs.1
  unfold f_X6_fits
  rw [ck_mk zk_175, begin_c hR', b1_mk, frs_sc (sw_sc hsw), ck_mk zk_175, f, b2_mk]
  by_cases hc : fw y cs n (frs h p q) 0 = -1
  · rw [hc, if_pos (by decide), if_pos rfl]
    rfl
  · rw [if_neg (by rw [show (-1 : Int32) = ii (-1) by decide, ii_eq (by omega) (by omega) (by omega) (by omega)]; exact hc), if_neg hc]
    rfl
theorem einn_c (hR : Rel g h y) (hg0 : 0 ≤ g) (hg : g ≤ 80000000) (hL : 0 < y 0 0) (hN : y 0 1 = N) (hs : Sh h b 189 190 cs n) (X1 : -2147483648 ≤ X) (X2 : X < 2147483648) {a : Nat} (ha : a < N) {C : Int} (hC : C ≤ 1000) (K : Int → Int) (k6 : ps_M → Nat → Nat → Nat → Nat → Int32 → Int32 → Int32 → Option (Int32 × ps_M)) (hk : ∀ (h' : zM) (c : Int), sw h h' → 0 ≤ c → c ≤ C → ∃ h1, k6 (mk h' b) 175 1 18 189 (ii X) (ii c) (ii ((a + 1 : Nat) : Int)) = some (ii (K c), mk h1 b) ∧ sw h h1) : ∀ (d e m : Nat) (h' : zM) (c : Int), e + d = N → d < m → sw h h' → 0 ≤ c → c + d ≤ C → ∃ h1, f_X6_pairThatFits_l18 k6 m (mk h' b) 175 1 18 189 (ii X) (ii c) (ii (a : Int)) (ii (e : Int)) = some (ii (einn (fun p q => fw y cs n (frs h p q) 0) X a K d e c), mk h1 b) ∧ sw h h1 := by
  have hn := hR.1.1.2.1.2
  intro d
  induction d with
  | zero =>
    intro e m h' c he hm hsw hc0 hcC
    obtain ⟨m', rfl⟩ : ∃ m', m = m' + 1 := ⟨m - 1, by omega⟩
    show ∃ h1, f_X6_pairThatFits_w18 k6 (f_X6_pairThatFits_l18 k6 m') (mk h' b) 175 1 18 189 (ii X) (ii c) (ii (a : Int)) (ii (e : Int)) = _ ∧ _
    have h11 : h' 1 1 = ii (y 0 1) := by rw [hsw 1 1 (by omega)]; exact hR.1.2.1.2.1
    unfold f_X6_pairThatFits_w18
    rw [gI_mk zk_1, h11, if_pos (by rw [ii_le (by omega) (by omega) (by omega) (by omega)]; omega), suc_ii, v_mk]
    exact hk h' c hsw hc0 (by omega)
  | succ d ih =>
    intro e m h' c he hm hsw hc0 hcC
    obtain ⟨m', rfl⟩ : ∃ m', m = m' + 1 := ⟨m - 1, by omega⟩
    show ∃ h1, f_X6_pairThatFits_w18 k6 (f_X6_pairThatFits_l18 k6 m') (mk h' b) 175 1 18 189 (ii X) (ii c) (ii (a : Int)) (ii (e : Int)) = _ ∧ _
    have h11 : h' 1 1 = ii (y 0 1) := by rw [hsw 1 1 (by omega)]; exact hR.1.2.1.2.1
    unfold f_X6_pairThatFits_w18 einn f_X6_pairThatFits_b67
    rw [gI_mk zk_1, h11, if_neg (by rw [ii_le (by omega) (by omega) (by omega) (by omega)]; omega), suc_ii, v_mk]
    by_cases hae : a = e
    · rw [if_pos (by rw [hae]), if_pos hae]
      exact ih (e + 1) m' h' c (by omega) (by omega) hsw hc0 (by omega)
    · rw [if_neg (by rw [ii_eq (by omega) (by omega) (by omega) (by omega)]; omega), if_neg hae, ck_mk zk_175]
      obtain ⟨h1, f1, s1⟩ := fits_c (p := (a : Int)) (q := (e : Int)) hR hg0 hg hL ⟨by omega, by omega, by omega⟩ hs hsw
      rw [f1, b2_mk]
      by_cases hf : fw y cs n (frs h (a : Int) (e : Int)) 0 = -1
      · rw [if_pos hf, if_neg (by decide), if_pos hf]
        by_cases hcX : c = X
        · refine ⟨h1, ?_, s1⟩
          rw [if_pos (by rw [hcX]), if_pos hcX, show (10 : Int32) = ii 10 by decide, ii_mul, ii_add]
        · rw [if_neg (by rw [ii_eq (by omega) (by omega) (by omega) (by omega)]; exact hcX), if_neg hcX, show ii c + 1 = ii (c + 1) by rw [ii_lits.2.1, ii_add], v_mk, v_mk]
          exact ih (e + 1) m' h1 (c + 1) (by omega) (by omega) s1 (by omega) (by omega)
      · rw [if_neg hf, if_pos (by decide), if_neg hf]
        exact ih (e + 1) m' h1 c (by omega) (by omega) s1 hc0 (by omega)
theorem eout_c (hR : Rel g h y) (hg0 : 0 ≤ g) (hg : g ≤ 80000000) (hL : 0 < y 0 0) (hN : y 0 1 = N) (hs : Sh h b 189 190 cs n) (X1 : -2147483648 ≤ X) (X2 : X < 2147483648) : ∀ (d a m : Nat) (h' : zM) (c : Int), a + d = N → d < m → sw h h' → 0 ≤ c → c + 4 * d ≤ 1000 → ∃ h1, f_X6_pairThatFits_l6 m (mk h' b) 175 1 18 189 (ii X) (ii c) (ii (a : Int)) = some (ii (eout (fun p q => fw y cs n (frs h p q) 0) X N d a c), mk h1 b) ∧ sw h h1 := by
  have hn := hR.1.1.2.1.2
  intro d
  induction d with
  | zero =>
    intro a m h' c he hm hsw hc0 hcC
    obtain ⟨m', rfl⟩ : ∃ m', m = m' + 1 := ⟨m - 1, by omega⟩
    refine ⟨h', ?_, hsw⟩
    show f_X6_pairThatFits_w6 (f_X6_pairThatFits_l6 m') (mk h' b) 175 1 18 189 (ii X) (ii c) (ii (a : Int)) = _
    have h11 : h' 1 1 = ii (y 0 1) := by rw [hsw 1 1 (by omega)]; exact hR.1.2.1.2.1
    unfold f_X6_pairThatFits_w6 eout
    rw [gI_mk zk_1, h11, if_pos (by rw [ii_le (by omega) (by omega) (by omega) (by omega)]; omega), show (-1 : Int32) = ii (-1) by decide]
    by_cases hX : X = -1
    · rw [if_pos (by rw [hX]), if_pos hX]
      rfl
    · rw [if_neg (by rw [ii_eq (by omega) (by omega) (by omega) (by omega)]; exact hX), if_neg hX]
      rfl
  | succ d ih =>
    intro a m h' c he hm hsw hc0 hcC
    obtain ⟨m', rfl⟩ : ∃ m', m = m' + 1 := ⟨m - 1, by omega⟩
    show ∃ h1, f_X6_pairThatFits_w6 (f_X6_pairThatFits_l6 m') (mk h' b) 175 1 18 189 (ii X) (ii c) (ii (a : Int)) = _ ∧ _
    have h11 : h' 1 1 = ii (y 0 1) := by rw [hsw 1 1 (by omega)]; exact hR.1.2.1.2.1
    unfold f_X6_pairThatFits_w6 eout
    rw [gI_mk zk_1, h11, if_neg (by rw [ii_le (by omega) (by omega) (by omega) (by omega)]; omega)]
    exact einn_c hR hg0 hg hL hN hs X1 X2 (by omega) (C := 1000 - 4 * d) (by omega) _ _ (fun h'' c' s'' c0 c1 => ih (a + 1) m' h'' c' (by omega) (by omega) s'' c0 (by omega)) N 0 ps_fu h' c (by omega) (by unfold ps_fu; omega) hsw hc0 (by omega)
theorem einn_m (hR : Rel g h y) (hg0 : 0 ≤ g) (hg : g ≤ 80000000) (hL : 0 < y 0 0) (hN : y 0 1 = N) (hn8 : n ≤ 8) (hs : Sm h 32 219 cs n) (X1 : -2147483648 ≤ X) (X2 : X < 2147483648) {a : Nat} (ha : a < N) {C : Int} (hC : C ≤ 1000) (K : Int → Int) (k6 : ps_M → Nat → Int32 → Int32 → Int32 → Option (Int32 × ps_M)) (hk : ∀ (h' : zM) (c : Int), sm h h' → 0 ≤ c → c ≤ C → ∃ h1, k6 (mk h' b) 205 (ii X) (ii c) (ii ((a + 1 : Nat) : Int)) = some (ii (K c), mk h1 b) ∧ sm h h1) : ∀ (d e m : Nat) (h' : zM) (c : Int), e + d = N → d < m → sm h h' → 0 ≤ c → c + d ≤ C → ∃ h1, f_X10_end_l25 k6 m (mk h' b) 205 (ii X) (ii c) (ii (a : Int)) (ii (e : Int)) = some (ii (einn (fun p q => fw y cs n (frs h p q) 0) X a K d e c), mk h1 b) ∧ sm h h1 := by
  have hn := hR.1.1.2.1.2
  intro d
  induction d with
  | zero =>
    intro e m h' c he hm hsw hc0 hcC
    obtain ⟨m', rfl⟩ : ∃ m', m = m' + 1 := ⟨m - 1, by omega⟩
    show ∃ h1, f_X10_end_w25 k6 (f_X10_end_l25 k6 m') (mk h' b) 205 (ii X) (ii c) (ii (a : Int)) (ii (e : Int)) = _ ∧ _
    have h11 : h' 205 3 = ii (y 0 1) := by rw [hsw 205 3 (by omega)]; exact hR.1.2.2.2.1
    unfold f_X10_end_w25
    rw [gI_mk zk_205, h11, if_pos (by rw [ii_le (by omega) (by omega) (by omega) (by omega)]; omega), suc_ii, v_mk]
    exact hk h' c hsw hc0 (by omega)
  | succ d ih =>
    intro e m h' c he hm hsw hc0 hcC
    obtain ⟨m', rfl⟩ : ∃ m', m = m' + 1 := ⟨m - 1, by omega⟩
    show ∃ h1, f_X10_end_w25 k6 (f_X10_end_l25 k6 m') (mk h' b) 205 (ii X) (ii c) (ii (a : Int)) (ii (e : Int)) = _ ∧ _
    have h11 : h' 205 3 = ii (y 0 1) := by rw [hsw 205 3 (by omega)]; exact hR.1.2.2.2.1
    unfold f_X10_end_w25 einn f_X10_end_b70
    rw [gI_mk zk_205, h11, if_neg (by rw [ii_le (by omega) (by omega) (by omega) (by omega)]; omega), suc_ii, v_mk]
    by_cases hae : a = e
    · rw [if_pos (by rw [hae]), if_pos hae]
      exact ih (e + 1) m' h' c (by omega) (by omega) hsw hc0 (by omega)
    · have hR' := Rel_sc hR (sm_sc hsw)
      have h2 : two y (a : Int) (e : Int) := ⟨by omega, by omega, by omega⟩
      have hT := frs_tw hR' hg0 h2 hL
      have hms := mcp_sm h'
      have hYm : Ym (mcH h') y := Ym_c hR'.1.2.2 (fun c k q => hms c k (by omega))
      obtain ⟨r', f⟩ := asSeen_m (b := b) hR.1.1 hYm hn8 (Sm_sm (Sm_sm hs (by omega) hsw) (by omega) hms) hT.2.1 (rq_Pr hT.2.2.2 hT.2.2.1) (by omega)
      rw [fw_tw hR.1.1 n 0 _ _ _ hT, frs_sc (sm_sc hsw)] at f
      have s1 : sm h (putM (mcH h') 28 r') := sm_tr hsw (putM_sm hms)
      rw [if_neg (by rw [ii_eq (by omega) (by omega) (by omega) (by omega)]; omega), if_neg hae, ck_mk zk_205, begin_m hR' h2, b1_mk, ck_mk zk_205, f, b2_mk]
      by_cases hf : fw y cs n (frs h (a : Int) (e : Int)) 0 = -1
      · rw [if_pos hf, if_neg (by decide), if_pos hf]
        by_cases hcX : c = X
        · refine ⟨_, ?_, s1⟩
          rw [if_pos (by rw [hcX]), if_pos hcX, show (10 : Int32) = ii 10 by decide, ii_mul, ii_add]
        · rw [if_neg (by rw [ii_eq (by omega) (by omega) (by omega) (by omega)]; exact hcX), if_neg hcX, show ii c + 1 = ii (c + 1) by rw [ii_lits.2.1, ii_add], v_mk, v_mk]
          exact ih (e + 1) m' _ (c + 1) (by omega) (by omega) s1 (by omega) (by omega)
      · rw [if_neg hf, if_pos (by decide), if_neg hf]
        exact ih (e + 1) m' _ c (by omega) (by omega) s1 hc0 (by omega)
theorem eout_m (hR : Rel g h y) (hg0 : 0 ≤ g) (hg : g ≤ 80000000) (hL : 0 < y 0 0) (hN : y 0 1 = N) (hn8 : n ≤ 8) (hs : Sm h 32 219 cs n) (X1 : -2147483648 ≤ X) (X2 : X < 2147483648) : ∀ (d a m : Nat) (h' : zM) (c : Int), a + d = N → d < m → sm h h' → 0 ≤ c → c + 4 * d ≤ 1000 → ∃ h1, f_X10_end_l14 m (mk h' b) 205 (ii X) (ii c) (ii (a : Int)) = some (ii (eout (fun p q => fw y cs n (frs h p q) 0) X N d a c), mk h1 b) ∧ sm h h1 := by
  have hn := hR.1.1.2.1.2
  intro d
  induction d with
  | zero =>
    intro a m h' c he hm hsw hc0 hcC
    obtain ⟨m', rfl⟩ : ∃ m', m = m' + 1 := ⟨m - 1, by omega⟩
    refine ⟨h', ?_, hsw⟩
    show f_X10_end_w14 (f_X10_end_l14 m') (mk h' b) 205 (ii X) (ii c) (ii (a : Int)) = _
    have h11 : h' 205 3 = ii (y 0 1) := by rw [hsw 205 3 (by omega)]; exact hR.1.2.2.2.1
    unfold f_X10_end_w14 eout
    rw [gI_mk zk_205, h11, if_pos (by rw [ii_le (by omega) (by omega) (by omega) (by omega)]; omega), show (-1 : Int32) = ii (-1) by decide]
    by_cases hX : X = -1
    · rw [if_pos (by rw [hX]), if_pos hX]
      rfl
    · rw [if_neg (by rw [ii_eq (by omega) (by omega) (by omega) (by omega)]; exact hX), if_neg hX]
      rfl
  | succ d ih =>
    intro a m h' c he hm hsw hc0 hcC
    obtain ⟨m', rfl⟩ : ∃ m', m = m' + 1 := ⟨m - 1, by omega⟩
    show ∃ h1, f_X10_end_w14 (f_X10_end_l14 m') (mk h' b) 205 (ii X) (ii c) (ii (a : Int)) = _ ∧ _
    have h11 : h' 205 3 = ii (y 0 1) := by rw [hsw 205 3 (by omega)]; exact hR.1.2.2.2.1
    unfold f_X10_end_w14 eout
    rw [gI_mk zk_205, h11, if_neg (by rw [ii_le (by omega) (by omega) (by omega) (by omega)]; omega)]
    exact einn_m hR hg0 hg hL hN hn8 hs X1 X2 (by omega) (C := 1000 - 4 * d) (by omega) _ _ (fun h'' c' s'' c0 c1 => ih (a + 1) m' h'' c' (by omega) (by omega) s'' c0 (by omega)) N 0 ps_fu h' c (by omega) (by unfold ps_fu; omega) hsw hc0 (by omega)
end
theorem arm28 : ps_arm28 Inv := by
  rintro k M x hk ⟨h, b, y, rfl, hR⟩
  obtain ⟨X, rfl, x1, x2⟩ := ex_ii x
  have hLb := hR.1.1.1
  have hnb := hR.1.1.2.1
  by_cases hL : y 0 0 = 0
  · refine eqv_of (r := ii (-1000000003)) (h1 := h) (h2 := h) (b1 := b) (b2 := b) ?_ ?_ (inv_of hR)
    · unfold f_X9_end
      rw [g0_0, gI_mk zk_1, hR.1.2.1.1, hL, if_pos (by decide)]
      rfl
    · show f_X10_end (mk h b) 205 (ii X) = _
      unfold f_X10_end
      rw [gI_mk zk_205, hR.1.2.2.1, hL, if_pos (by decide)]
      rfl
  · have hL' : 0 < y 0 0 := by omega
    obtain ⟨n, n1, n2, n3, n4⟩ := hR.2.2.2.1
    obtain ⟨N, hN⟩ : ∃ N : Nat, y 0 1 = N := ⟨(y 0 1).toNat, by omega⟩
    have hSh := Ls_Sh (b := b) zk_189 (zr_189_0 b) zk_190 zl_190 (by omega) (by omega) n1 n2 n4
    obtain ⟨h1, f1, s1⟩ := eout_c hR (by omega) (by omega) hL' hN hSh x1 x2 N 0 ps_fu h 0 (by omega) (by unfold ps_fu; omega) (sw_rf h) (by omega) (by omega)
    have hR1 := Rel_sc hR (sw_sc s1)
    have hSm : Sm h1 32 219 (fun j => (h 190 j).toInt) n := ⟨by rw [s1 205 32 (by omega)]; exact n3, fun j hj => by rw [s1 219 j (by omega), (n4 j hj).1]; exact ⟨(ii_toInt _).symm, (n4 j hj).2⟩⟩
    obtain ⟨h3, f2, s2⟩ := eout_m (b := b) hR1 (by omega) (by omega) hL' hN n1 hSm x1 x2 N 0 ps_fu h1 0 (by omega) (by unfold ps_fu; omega) (sm_rf h1) (by omega) (by omega)
    rw [show (fun p q : Nat => fw y (fun j => (h 190 j).toInt) n (frs h1 p q) 0) = (fun p q : Nat => fw y (fun j => (h 190 j).toInt) n (frs h p q) 0) from by funext p q; rw [frs_sc (sw_sc s1)]] at f2
    refine eqv_of (h1 := h1) (h2 := h3) (b1 := b) (b2 := b) (r := ii (eout (fun p q : Nat => fw y (fun j => (h 190 j).toInt) n (frs h p q) 0) X N N 0 0)) ?_ ?_ (inv_of (Rel_sc hR1 (sm_sc s2)))
    · unfold f_X9_end f_X6_pairThatFits
      rw [g0_0, gI_mk zk_1, hR.1.2.1.1, if_neg (by rw [ii_lits.1, ii_eq (by omega) (by omega) (by omega) (by omega)]; exact hL), g0_4, g0_0, g0_2, g0_6, ck_mk zk_175, show (0 : Int32) = ii 0 by decide]
      rw [show f_X6_pairThatFits_l6 ps_fu (mk h b) 175 1 18 189 (ii X) (ii 0) (ii 0) = _ from f1, b2_mk]
      rfl
    · show f_X10_end (mk h1 b) 205 (ii X) = _
      unfold f_X10_end
      rw [gI_mk zk_205, hR1.1.2.2.1, if_neg (by rw [ii_lits.1, ii_eq (by omega) (by omega) (by omega) (by omega)]; exact hL), show (0 : Int32) = ii 0 by decide]
      exact f2
