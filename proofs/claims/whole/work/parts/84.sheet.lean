/-! the sheets: feed, see, write, tear; the seed -/
theorem uI_o {h : zM} {a i c k : Nat} {v : Int32} (hc : ¬ (c = a ∧ k = i)) : ps_uI h a i v c k = h c k := by
  unfold ps_uI
  rw [if_neg hc]
theorem uI_s {h : zM} {a i : Nat} {v : Int32} : ps_uI h a i v a i = v := by
  unfold ps_uI
  rw [if_pos ⟨rfl, rfl⟩]
section
variable {h : zM} {b : Bool} {c cr N n : Nat} {x : Int32}
theorem add_mk (kc : zK c = 5) (kr : zK cr = 21) (lr : zL cr = N) (rc : zR b c 0 = cr + 1) (hcr : cr ≠ c) (hN : N ≤ 4000) (hn : n < N) (h1 : h c 1 = ii n) : f_X5_add (mk h b) c x = some (ii 1, mk (ps_uI (ps_uI h cr n x) c 1 (ii ((n + 1 : Nat) : Int))) b) := by
  unfold f_X5_add
  rw [gI_mk kc, gR_mk kc rc, aL_mk kr, lr, h1, if_pos (by rw [ii_lt (by omega) (by omega) (by omega) (by omega)]; omega), gR_mk kc rc, gI_mk kc, h1, put_mk kr (by omega) (by omega) (by omega), b1_mk, gI_mk kc, uI_o (by omega), h1, ii_lits.2.1, ii_add, pI_mk kc, Int.toNat_natCast]
  rfl
theorem add_full (kc : zK c = 5) (kr : zK cr = 21) (lr : zL cr = N) (rc : zR b c 0 = cr + 1) (hN : N ≤ 4000) (hn : n = N) (h1 : h c 1 = ii n) : f_X5_add (mk h b) c x = some (ii 0, mk h b) := by
  unfold f_X5_add
  rw [gI_mk kc, gR_mk kc rc, aL_mk kr, lr, h1, if_neg (by rw [ii_lt (by omega) (by omega) (by omega) (by omega)]; omega)]
  rfl
/-- the four writes of a line more -/
def u4 (h : zM) (c cr kd mr n : Nat) (x : Int32) : zM := ps_uI (ps_uI (ps_uI (ps_uI h cr n x) c 1 (ii ((n + 1 : Nat) : Int))) mr n x) 205 kd (ii ((n + 1 : Nat) : Int))
theorem u4_o {kd mr c' k : Nat} (h1 : ¬ (c' = cr ∧ k = n)) (h2 : ¬ (c' = c ∧ k = 1)) (h3 : ¬ (c' = mr ∧ k = n)) (h4 : ¬ (c' = 205 ∧ k = kd)) : u4 h c cr kd mr n x c' k = h c' k := by
  unfold u4
  rw [uI_o h4, uI_o h3, uI_o h2, uI_o h1]
theorem Ls_add {kd mr : Nat} {hi X : Int} (hL : Ls h c cr kd mr N hi) (hn : n < N) (h1 : h c 1 = ii n) (hx : 0 ≤ X ∧ X ≤ hi) (hhi : hi < 1000) (hN : N ≤ 4000) (d1 : cr ≠ c) (d2 : mr ≠ c) (d3 : mr ≠ cr) (d4 : c ≠ 205) (d5 : cr ≠ 205) (d6 : mr ≠ 205) : Ls (u4 h c cr kd mr n (ii X)) c cr kd mr N hi := by
  obtain ⟨n', a1, a2, a3, a4⟩ := hL
  have e : n' = n := by
    rw [h1] at a2
    have := (ii_eq (x := (n : Int)) (y := (n' : Int)) (by omega) (by omega) (by omega) (by omega)).mp a2
    omega
  subst e
  refine ⟨n' + 1, by omega, ?_, ?_, fun j hj => ?_⟩
  · unfold u4
    rw [uI_o (by omega), uI_o (by omega), uI_s]
  · unfold u4
    rw [uI_s]
  · by_cases hjn : j = n'
    · subst hjn
      unfold u4
      rw [uI_o (by omega), uI_s, uI_o (by omega), uI_o (by omega), uI_o (by omega), uI_s]
      refine ⟨rfl, ?_, ?_⟩ <;> rw [toInt_ii (by omega) (by omega)] <;> omega
    · rw [u4_o (by omega) (by omega) (by omega) (by omega), u4_o (by omega) (by omega) (by omega) (by omega)]
      exact a4 j (by omega)
end
theorem arm26 : ps_arm26 Inv := by
  rintro k M x hk ⟨h, b, y, rfl, hR⟩
  obtain ⟨X, rfl, x1, x2⟩ := ex_ii x
  have hR0 := hR
  have hy4 := Rel_y4 hR
  obtain ⟨hRY, hN, hS, hseen, hbook, htext, hF, hI0, hI1, hP⟩ := hR
  obtain ⟨n, n1, s1, s2, -⟩ := id hseen
  by_cases cc : 0 ≤ X ∧ X ≤ 999
  · by_cases hn : n < 8
    · refine eqv_of (r := ii ((n + 1 : Nat) : Int)) (h1 := ps_uI (ps_uI h 190 n (ii X)) 189 1 (ii ((n + 1 : Nat) : Int))) (h2 := u4 h 189 190 32 219 n (ii X)) (b1 := b) (b2 := b) ?_ ?_ ⟨_, b, y, rfl, Rel_up (g := 891 * k) ?_ (by omega)⟩
      · unfold f_X9_see f_X9_addCut
        simp only [ii_lits]
        rw [g0_6, within_mk (by omega) (by omega) (by omega) (by omega) (by omega) (by omega), b2_mk, if_pos cc, if_neg (by decide), ck_mk zk_189, add_mk zk_189 zk_190 zl_190 (zr_189_0 b) (by omega) (by omega) hn s1, b2_mk, if_neg (by decide), gI_mk zk_189, uI_s]
        rfl
      · show f_X10_see (mk (ps_uI (ps_uI h 190 n (ii X)) 189 1 (ii ((n + 1 : Nat) : Int))) b) 205 (ii X) = _
        unfold f_X10_see
        simp only [l64_lits]
        rw [ii_l64 x1 x2, in_mk (by omega) (by omega) (by omega) (by omega) (by omega) (by omega), b2_mk, if_pos cc, if_neg (by decide), gI_mk zk_205, uI_o (by omega), uI_o (by omega), s2, if_neg (by rw [show (8 : Int32) = ii 8 by decide, ii_eq (by omega) (by omega) (by omega) (by omega)]; omega), gR_mk zk_205 (zr_205_31 b), gI_mk zk_205, uI_o (by omega), uI_o (by omega), s2, xI_mk zk_219 (by omega) (by rw [zl_219]; omega) (by rw [zl_219]; omega), gI_mk zk_205, uI_o (by omega), uI_o (by omega), uI_o (by omega), s2, ii_lits.2.1, ii_add, pI_mk zk_205, gI_mk zk_205, uI_s, Int.toNat_natCast]
        rfl
      · exact ⟨RY_c hRY (fun c k q => u4_o (by omega) (by omega) (by omega) (by omega)), RN_c hy4 hN (fun c k q => u4_o (by omega) (by omega) (by omega) (by omega)), RS_c hS (fun c k q => u4_o (by omega) (by omega) (by omega) (by omega)), Ls_add hseen hn s1 cc (by omega) (by omega) (by omega) (by omega) (by omega) (by omega) (by omega) (by omega), Ls_c hbook (fun c k q => u4_o (by omega) (by omega) (by omega) (by omega)), Ls_c htext (fun c k q => u4_o (by omega) (by omega) (by omega) (by omega)), RF_c hF (fun c k q => u4_o (by omega) (by omega) (by omega) (by omega)), RI_c hy4 hI0 (fun c k q => u4_o (by omega) (by omega) (by omega) (by omega)), RI_c hy4 hI1 (fun c k q => u4_o (by omega) (by omega) (by omega) (by omega)), RP_c hy4 hP (fun c k q => u4_o (by omega) (by omega) (by omega) (by omega))⟩
    · have hn' : n = 8 := by omega
      refine eqv_of (r := -1000000004) (h1 := h) (h2 := h) (b1 := b) (b2 := b) ?_ ?_ (inv_of hR0)
      · unfold f_X9_see f_X9_addCut
        rw [g0_6, ii_lits.1, show (999 : Int32) = ii 999 by decide, within_mk (by omega) (by omega) (by omega) (by omega) (by omega) (by omega), b2_mk, if_pos cc, if_neg (by decide), ck_mk zk_189, add_full zk_189 zk_190 zl_190 (zr_189_0 b) (by omega) hn' s1, b2_mk, if_pos rfl]
        rfl
      · show f_X10_see (mk h b) 205 (ii X) = _
        unfold f_X10_see
        simp only [l64_lits]
        rw [ii_l64 x1 x2, in_mk (by omega) (by omega) (by omega) (by omega) (by omega) (by omega), b2_mk, if_pos cc, if_neg (by decide), gI_mk zk_205, s2, if_pos (by rw [hn']; decide)]
  · refine eqv_of (r := -1000000002) (h1 := h) (h2 := h) (b1 := b) (b2 := b) ?_ ?_ (inv_of hR0)
    · unfold f_X9_see f_X9_addCut
      rw [g0_6, ii_lits.1, show (999 : Int32) = ii 999 by decide, within_mk (by omega) (by omega) (by omega) (by omega) (by omega) (by omega), b2_mk, if_neg cc, if_pos rfl]
      rfl
    · show f_X10_see (mk h b) 205 (ii X) = _
      unfold f_X10_see
      simp only [l64_lits]
      rw [ii_l64 x1 x2, in_mk (by omega) (by omega) (by omega) (by omega) (by omega) (by omega), b2_mk, if_neg cc, if_pos (by decide)]
theorem arm29 : ps_arm29 Inv := by
  rintro k M x hk ⟨h, b, y, rfl, hR⟩
  obtain ⟨X, rfl, x1, x2⟩ := ex_ii x
  have hR0 := hR
  have hy4 := Rel_y4 hR
  obtain ⟨hRY, hN, hS, hseen, hbook, htext, hF, hI0, hI1, hP⟩ := hR
  obtain ⟨n, n1, s1, s2, -⟩ := id hbook
  by_cases cc : 0 ≤ X ∧ X ≤ 999
  · by_cases hn : n < 20
    · refine eqv_of (r := ii ((n + 1 : Nat) : Int)) (h1 := ps_uI (ps_uI h 192 n (ii X)) 191 1 (ii ((n + 1 : Nat) : Int))) (h2 := u4 h 191 192 34 220 n (ii X)) (b1 := b) (b2 := b) ?_ ?_ ⟨_, b, y, rfl, Rel_up (g := 891 * k) ?_ (by omega)⟩
      · unfold f_X9_write f_X9_addCut
        simp only [ii_lits]
        rw [g0_7, within_mk (by omega) (by omega) (by omega) (by omega) (by omega) (by omega), b2_mk, if_pos cc, if_neg (by decide), ck_mk zk_191, add_mk zk_191 zk_192 zl_192 (zr_191_0 b) (by omega) (by omega) hn s1, b2_mk, if_neg (by decide), gI_mk zk_191, uI_s]
        rfl
      · show f_X10_write (mk (ps_uI (ps_uI h 192 n (ii X)) 191 1 (ii ((n + 1 : Nat) : Int))) b) 205 (ii X) = _
        unfold f_X10_write
        simp only [l64_lits]
        rw [ii_l64 x1 x2, in_mk (by omega) (by omega) (by omega) (by omega) (by omega) (by omega), b2_mk, if_pos cc, if_neg (by decide), gI_mk zk_205, uI_o (by omega), uI_o (by omega), s2, if_neg (by rw [show (20 : Int32) = ii 20 by decide, ii_eq (by omega) (by omega) (by omega) (by omega)]; omega), gR_mk zk_205 (zr_205_33 b), gI_mk zk_205, uI_o (by omega), uI_o (by omega), s2, xI_mk zk_220 (by omega) (by rw [zl_220]; omega) (by rw [zl_220]; omega), gI_mk zk_205, uI_o (by omega), uI_o (by omega), uI_o (by omega), s2, ii_lits.2.1, ii_add, pI_mk zk_205, gI_mk zk_205, uI_s, Int.toNat_natCast]
        rfl
      · exact ⟨RY_c hRY (fun c k q => u4_o (by omega) (by omega) (by omega) (by omega)), RN_c hy4 hN (fun c k q => u4_o (by omega) (by omega) (by omega) (by omega)), RS_c hS (fun c k q => u4_o (by omega) (by omega) (by omega) (by omega)), Ls_c hseen (fun c k q => u4_o (by omega) (by omega) (by omega) (by omega)), Ls_add hbook hn s1 cc (by omega) (by omega) (by omega) (by omega) (by omega) (by omega) (by omega) (by omega), Ls_c htext (fun c k q => u4_o (by omega) (by omega) (by omega) (by omega)), RF_c hF (fun c k q => u4_o (by omega) (by omega) (by omega) (by omega)), RI_c hy4 hI0 (fun c k q => u4_o (by omega) (by omega) (by omega) (by omega)), RI_c hy4 hI1 (fun c k q => u4_o (by omega) (by omega) (by omega) (by omega)), RP_c hy4 hP (fun c k q => u4_o (by omega) (by omega) (by omega) (by omega))⟩
    · have hn' : n = 20 := by omega
      refine eqv_of (r := -1000000004) (h1 := h) (h2 := h) (b1 := b) (b2 := b) ?_ ?_ (inv_of hR0)
      · unfold f_X9_write f_X9_addCut
        rw [g0_7, ii_lits.1, show (999 : Int32) = ii 999 by decide, within_mk (by omega) (by omega) (by omega) (by omega) (by omega) (by omega), b2_mk, if_pos cc, if_neg (by decide), ck_mk zk_191, add_full zk_191 zk_192 zl_192 (zr_191_0 b) (by omega) hn' s1, b2_mk, if_pos rfl]
        rfl
      · show f_X10_write (mk h b) 205 (ii X) = _
        unfold f_X10_write
        simp only [l64_lits]
        rw [ii_l64 x1 x2, in_mk (by omega) (by omega) (by omega) (by omega) (by omega) (by omega), b2_mk, if_pos cc, if_neg (by decide), gI_mk zk_205, s2, if_pos (by rw [hn']; decide)]
  · refine eqv_of (r := -1000000002) (h1 := h) (h2 := h) (b1 := b) (b2 := b) ?_ ?_ (inv_of hR0)
    · unfold f_X9_write f_X9_addCut
      rw [g0_7, ii_lits.1, show (999 : Int32) = ii 999 by decide, within_mk (by omega) (by omega) (by omega) (by omega) (by omega) (by omega), b2_mk, if_neg cc, if_pos rfl]
      rfl
    · show f_X10_write (mk h b) 205 (ii X) = _
      unfold f_X10_write
      simp only [l64_lits]
      rw [ii_l64 x1 x2, in_mk (by omega) (by omega) (by omega) (by omega) (by omega) (by omega), b2_mk, if_neg cc, if_pos (by decide)]
theorem arm0 : ps_arm0 Inv := by
  rintro k M x hk ⟨h, b, y, rfl, hR⟩
  obtain ⟨X, rfl, x1, x2⟩ := ex_ii x
  have hR0 := hR
  have hy4 := Rel_y4 hR
  obtain ⟨hRY, hN, hS, hseen, hbook, htext, hF, hI0, hI1, hP⟩ := hR
  obtain ⟨n, n1, s1, s2, -⟩ := id htext
  by_cases cc : 0 ≤ X ∧ X ≤ 255
  · by_cases hn : n < 250
    · refine eqv_of (r := ii ((n + 1 : Nat) : Int)) (h1 := ps_uI (ps_uI h 10 n (ii X)) 9 1 (ii ((n + 1 : Nat) : Int))) (h2 := u4 h 9 10 21 214 n (ii X)) (b1 := b) (b2 := b) ?_ ?_ ⟨_, b, y, rfl, Rel_up (g := 891 * k) ?_ (by omega)⟩
      · unfold f_X9_feed
        rw [ii_lits.1, if_neg (by rw [ii_lt (by omega) (by omega) (by omega) (by omega)]; omega), show (255 : Int32) = ii 255 by decide, if_pos (by rw [ii_le (by omega) (by omega) (by omega) (by omega)]; omega), g0_1, gR_mk zk_8 (zr_8_0 b), ck_mk zk_9, add_mk zk_9 zk_10 zl_10 (zr_9_0 b) (by omega) (by omega) hn s1, b2_mk, if_neg (by decide), g0_1, gR_mk zk_8 (zr_8_0 b), gI_mk zk_9, uI_s]
        rfl
      · show f_X10_feed (mk (ps_uI (ps_uI h 10 n (ii X)) 9 1 (ii ((n + 1 : Nat) : Int))) b) 205 (ii X) = _
        unfold f_X10_feed
        simp only [l64_lits]
        rw [ii_l64 x1 x2, in_mk (by omega) (by omega) (by omega) (by omega) (by omega) (by omega), b2_mk, if_pos cc, if_neg (by decide), gI_mk zk_205, uI_o (by omega), uI_o (by omega), s2, if_neg (by rw [show (250 : Int32) = ii 250 by decide, ii_eq (by omega) (by omega) (by omega) (by omega)]; omega), gR_mk zk_205 (zr_205_20 b), gI_mk zk_205, uI_o (by omega), uI_o (by omega), s2, xI_mk zk_214 (by omega) (by rw [zl_214]; omega) (by rw [zl_214]; omega), gI_mk zk_205, uI_o (by omega), uI_o (by omega), uI_o (by omega), s2, ii_lits.2.1, ii_add, pI_mk zk_205, gI_mk zk_205, uI_s, Int.toNat_natCast]
        rfl
      · exact ⟨RY_c hRY (fun c k q => u4_o (by omega) (by omega) (by omega) (by omega)), RN_c hy4 hN (fun c k q => u4_o (by omega) (by omega) (by omega) (by omega)), RS_c hS (fun c k q => u4_o (by omega) (by omega) (by omega) (by omega)), Ls_c hseen (fun c k q => u4_o (by omega) (by omega) (by omega) (by omega)), Ls_c hbook (fun c k q => u4_o (by omega) (by omega) (by omega) (by omega)), Ls_add htext hn s1 cc (by omega) (by omega) (by omega) (by omega) (by omega) (by omega) (by omega) (by omega), RF_c hF (fun c k q => u4_o (by omega) (by omega) (by omega) (by omega)), RI_c hy4 hI0 (fun c k q => u4_o (by omega) (by omega) (by omega) (by omega)), RI_c hy4 hI1 (fun c k q => u4_o (by omega) (by omega) (by omega) (by omega)), RP_c hy4 hP (fun c k q => u4_o (by omega) (by omega) (by omega) (by omega))⟩
    · have hn' : n = 250 := by omega
      refine eqv_of (r := -1000000004) (h1 := h) (h2 := h) (b1 := b) (b2 := b) ?_ ?_ (inv_of hR0)
      · unfold f_X9_feed
        rw [ii_lits.1, if_neg (by rw [ii_lt (by omega) (by omega) (by omega) (by omega)]; omega), show (255 : Int32) = ii 255 by decide, if_pos (by rw [ii_le (by omega) (by omega) (by omega) (by omega)]; omega), g0_1, gR_mk zk_8 (zr_8_0 b), ck_mk zk_9, add_full zk_9 zk_10 zl_10 (zr_9_0 b) (by omega) hn' s1, b2_mk, if_pos rfl]
        rfl
      · show f_X10_feed (mk h b) 205 (ii X) = _
        unfold f_X10_feed
        simp only [l64_lits]
        rw [ii_l64 x1 x2, in_mk (by omega) (by omega) (by omega) (by omega) (by omega) (by omega), b2_mk, if_pos cc, if_neg (by decide), gI_mk zk_205, s2, if_pos (by rw [hn']; decide)]
  · refine eqv_of (r := -1000000002) (h1 := h) (h2 := h) (b1 := b) (b2 := b) ?_ ?_ (inv_of hR0)
    · unfold f_X9_feed
      rw [ii_lits.1]
      by_cases c0 : X < 0
      · rw [if_pos (by rw [ii_lt (by omega) (by omega) (by omega) (by omega)]; omega)]
        rfl
      · rw [if_neg (by rw [ii_lt (by omega) (by omega) (by omega) (by omega)]; omega), show (255 : Int32) = ii 255 by decide, if_neg (by rw [ii_le (by omega) (by omega) (by omega) (by omega)]; omega)]
        rfl
    · show f_X10_feed (mk h b) 205 (ii X) = _
      unfold f_X10_feed
      simp only [l64_lits]
      rw [ii_l64 x1 x2, in_mk (by omega) (by omega) (by omega) (by omega) (by omega) (by omega), b2_mk, if_neg cc, if_pos (by decide)]
theorem Ls_zero {h : zM} {c cr kd mr N : Nat} {hi : Int} (h1 : h c 1 = ii 0) (h2 : h 205 kd = ii 0) : Ls h c cr kd mr N hi := ⟨0, by omega, h1, h2, fun j hj => by omega⟩
theorem arm31 : ps_arm31 Inv := by
  rintro k M hk ⟨h, b, y, rfl, hR⟩
  have hy4 := Rel_y4 hR
  obtain ⟨hRY, hN, hS, hseen, hbook, htext, hF, hI0, hI1, hP⟩ := hR
  obtain ⟨n, n1, s1, s2, -⟩ := hseen
  obtain ⟨m, m1, t1, t2, -⟩ := hbook
  refine eqv_of (r := ii (n + m)) (h1 := ps_uI (ps_uI h 189 1 (ii 0)) 191 1 (ii 0)) (h2 := ps_uI (ps_uI (ps_uI (ps_uI h 189 1 (ii 0)) 191 1 (ii 0)) 205 32 (ii 0)) 205 34 (ii 0)) (b1 := b) (b2 := b) ?_ ?_ ⟨_, b, y, rfl, Rel_up (g := 891 * k) ?_ (by omega)⟩
  · unfold f_X9_tear f_X5_clear
    simp only [ii_lits]
    rw [g0_6, gI_mk zk_189, g0_7, gI_mk zk_191, s1, t1, ii_add, v_mk, g0_6, ck_mk zk_189, pI_mk zk_189, b1_mk, g0_7, ck_mk zk_191, pI_mk zk_191, b1_mk]
  · show f_X10_tear (mk (ps_uI (ps_uI h 189 1 (ii 0)) 191 1 (ii 0)) b) 205 = _
    unfold f_X10_tear
    simp only [ii_lits]
    rw [gI_mk zk_205, gI_mk zk_205, uI_o (by omega), uI_o (by omega), uI_o (by omega), uI_o (by omega), s2, t2, ii_add, v_mk, pI_mk zk_205, pI_mk zk_205]
  · have o : ∀ c k, ¬ (c = 189 ∧ k = 1) → ¬ (c = 191 ∧ k = 1) → ¬ (c = 205 ∧ k = 32) → ¬ (c = 205 ∧ k = 34) → ps_uI (ps_uI (ps_uI (ps_uI h 189 1 (ii 0)) 191 1 (ii 0)) 205 32 (ii 0)) 205 34 (ii 0) c k = h c k := fun c k a1 a2 a3 a4 => by rw [uI_o a4, uI_o a3, uI_o a2, uI_o a1]
    refine ⟨RY_c hRY (fun c k q => o c k (by omega) (by omega) (by omega) (by omega)), RN_c hy4 hN (fun c k q => o c k (by omega) (by omega) (by omega) (by omega)), RS_c hS (fun c k q => o c k (by omega) (by omega) (by omega) (by omega)), Ls_zero ?_ ?_, Ls_zero ?_ ?_, Ls_c htext (fun c k q => o c k (by omega) (by omega) (by omega) (by omega)), RF_c hF (fun c k q => o c k (by omega) (by omega) (by omega) (by omega)), RI_c hy4 hI0 (fun c k q => o c k (by omega) (by omega) (by omega) (by omega)), RI_c hy4 hI1 (fun c k q => o c k (by omega) (by omega) (by omega) (by omega)), RP_c hy4 hP (fun c k q => o c k (by omega) (by omega) (by omega) (by omega))⟩
    · rw [uI_o (by omega), uI_o (by omega), uI_o (by omega), uI_s]
    · rw [uI_o (by omega), uI_s]
    · rw [uI_o (by omega), uI_o (by omega), uI_s]
    · rw [uI_s]
theorem arm32 : ps_arm32 Inv := by
  rintro k M x hk ⟨h, b, y, rfl, hR⟩
  obtain ⟨X, rfl, x1, x2⟩ := ex_ii x
  have hR0 := hR
  have hy4 := Rel_y4 hR
  obtain ⟨hRY, hN, hS, hseen, hbook, htext, hF, hI0, hI1, hP⟩ := hR
  by_cases c0 : 0 ≤ X
  · refine eqv_of (r := h 0 10) (h1 := ps_uI h 0 10 (ii X)) (h2 := ps_uI (ps_uI h 0 10 (ii X)) 206 25 (ii X)) (b1 := b) (b2 := b) ?_ ?_ ⟨_, b, y, rfl, Rel_up (g := 891 * k) ?_ (by omega)⟩
    · unfold f_X9_seed
      rw [ii_lits.1, if_pos (by rw [ii_le (by omega) (by omega) (by omega) (by omega)]; exact c0), gI_mk zk_0, pI_mk zk_0]
    · show f_X10_seed (mk (ps_uI h 0 10 (ii X)) b) 205 (ii X) = _
      unfold f_X10_seed
      rw [ii_lits.1, if_pos (by rw [ii_le (by omega) (by omega) (by omega) (by omega)]; exact c0), gW, show (25 : Int32) = ii 25 by decide, aI_mk zk_206 (by omega) (by rw [zl_206]; omega) (by rw [zl_206]; omega), gW, xI_mk zk_206 (by omega) (by rw [zl_206]; omega) (by rw [zl_206]; omega), show (25 : Int).toNat = 25 from rfl, uI_o (by omega), hS.1]
    · have o : ∀ c k, ¬ (c = 0 ∧ k = 10) → ¬ (c = 206 ∧ k = 25) → ps_uI (ps_uI h 0 10 (ii X)) 206 25 (ii X) c k = h c k := fun c k a1 a2 => by rw [uI_o a2, uI_o a1]
      refine ⟨RY_c hRY (fun c k q => o c k (by omega) (by omega)), RN_c hy4 hN (fun c k q => o c k (by omega) (by omega)), ⟨?_, ?_⟩, Ls_c hseen (fun c k q => o c k (by omega) (by omega)), Ls_c hbook (fun c k q => o c k (by omega) (by omega)), Ls_c htext (fun c k q => o c k (by omega) (by omega)), RF_c hF (fun c k q => o c k (by omega) (by omega)), RI_c hy4 hI0 (fun c k q => o c k (by omega) (by omega)), RI_c hy4 hI1 (fun c k q => o c k (by omega) (by omega)), RP_c hy4 hP (fun c k q => o c k (by omega) (by omega))⟩
      · rw [uI_s, uI_o (by omega), uI_s]
      · rw [uI_o (by omega), uI_s, toInt_ii x1 x2]
        exact c0
  · refine eqv_of (r := -1000000002) (h1 := h) (h2 := h) (b1 := b) (b2 := b) ?_ ?_ (inv_of hR0)
    · unfold f_X9_seed
      rw [ii_lits.1, if_neg (by rw [ii_le (by omega) (by omega) (by omega) (by omega)]; exact c0)]
    · show f_X10_seed (mk h b) 205 (ii X) = _
      unfold f_X10_seed
      rw [ii_lits.1, if_neg (by rw [ii_le (by omega) (by omega) (by omega) (by omega)]; exact c0)]
