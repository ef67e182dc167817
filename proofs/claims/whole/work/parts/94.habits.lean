theorem Sh_sw {h h1 : zM} {b : Bool} {c cr n : Nat} {cs : Nat → Int} (hs : Sh h b c cr cs n) (hc : 180 < c ∧ 180 < cr) (s : sw h h1) : Sh h1 b c cr cs n := by
  obtain ⟨s1, s2, s3, s4, s5, s6, s7, s8, s9, s10⟩ := hs
  exact ⟨s1, s2, s3, s4, s5, s6, s7, s8, by rw [s c 1 (by omega)]; exact s9, fun j hj => by rw [s cr j (by omega)]; exact s10 j hj⟩
theorem Sm_sm {h h1 : zM} {kd cr n : Nat} {cs : Nat → Int} (hs : Sm h kd cr cs n) (hc : cr ≠ 206) (s : sm h h1) : Sm h1 kd cr cs n :=
  ⟨by rw [s 205 kd (by omega)]; exact hs.1, fun j hj => by rw [s cr j (by omega)]; exact hs.2 j hj⟩
theorem shz : ∀ (s k : Int32), s ||| ((0 : Int32) <<< k) = s := by
  intro s k
  have h0 : (0 : Int32) <<< k = 0 := by
    apply Int32.toBitVec_inj.mp
    simp [Int32.toBitVec_shiftLeft]
  rw [h0]
  simp
def hst (y : Nat → Nat → Int) (cs : Nat → Int) (n : Nat) (rf : Nat → Nat → Int) : Nat → Int32 → Nat → Int32
  | 0, s, _ => s
  | d + 1, s, i => hst y cs n rf d (if fw y cs n (rf i) 0 = -1 then s ||| ((1 : Int32) <<< (ii i &&& 31)) else s) (i + 1)
section
variable {h : zM} {b : Bool} {y : Nat → Nat → Int} {g : Int} {cs : Nat → Int} {p q : Int} {n : Nat}
theorem habits_c (hR : Rel g h y) (hg0 : 0 ≤ g) (hg : g ≤ 80000000) (hL : 0 < y 0 0) (h2 : two y p q) (hs : Sh h b 189 190 cs n) : ∀ (d i m : Nat) (h' : zM) (s : Int32), i + d = 10 → d < m → sw h h' → ∃ h1, f_X6_habitsThatFit_l6 m (mk h' b) 175 1 18 (ii p) (ii q) 189 s (ii i) = some (hst y cs n (fun i => rs (frs h p q) (12 + q.toNat) i) d s i, mk h1 b) ∧ sw h h1 := by
  have hn := hR.1.1.2.1.2
  have hq4 : q.toNat < 4 ∧ 0 ≤ q := by have := h2.2.1; omega
  intro d
  induction d with
  | zero =>
    intro i m h' s hi hm hsw
    obtain ⟨m', rfl⟩ : ∃ m', m = m' + 1 := ⟨m - 1, by omega⟩
    refine ⟨h', ?_, hsw⟩
    show f_X6_habitsThatFit_w6 (f_X6_habitsThatFit_l6 m') (mk h' b) 175 1 18 (ii p) (ii q) 189 s (ii i) = _
    unfold f_X6_habitsThatFit_w6
    rw [show (9 : Int32) = ii 9 by decide, if_pos (by rw [ii_lt (by omega) (by omega) (by omega) (by omega)]; omega)]
    rfl
  | succ d ih =>
    intro i m h' s hi hm hsw
    obtain ⟨m', rfl⟩ : ∃ m', m = m' + 1 := ⟨m - 1, by omega⟩
    show ∃ h1, f_X6_habitsThatFit_w6 (f_X6_habitsThatFit_l6 m') (mk h' b) 175 1 18 (ii p) (ii q) 189 s (ii i) = _ ∧ _
    have hR' := Rel_sc hR (sw_sc hsw)
    have hT := Tw_rs (j := 12 + q.toNat) (v := i) (frs_tw hR' hg0 h2 hL) hn (by omega) (fun a => by omega) (fun a => by omega) (fun a => by omega) (fun a => by omega)
    obtain ⟨r', f⟩ := firstWrong_c (b := b) hR.1.1 hR'.1.2.1 hL (Sh_sw hs (by omega) hsw) hT.1 hT.2.2.1 (by omega)
    rw [frs_sc (sw_sc hsw)] at f
    have s1 : sw h (putW h' 176 r') := fun c k q => by rw [putW_o _ _ _ (by omega), hsw c k q]
    unfold f_X6_habitsThatFit_w6 hst
    rw [show (9 : Int32) = ii 9 by decide, if_neg (by rw [ii_lt (by omega) (by omega) (by omega) (by omega)]; omega), ck_mk zk_175, begin_c hR', b1_mk, frs_sc (sw_sc hsw), gR_mk zk_175 (zr_175_8 b), gR_mk iw_176.1 (iw_176.2.2.2.2.2.2.2.2.2.2.1 b), put_mk iw_176.2.2.1 hq4.2 (by rw [iw_176.2.2.2.2.2.2.1]; omega) (by rw [iw_176.2.2.2.2.2.2.1]; omega), b1_mk, uI_2 _ _ _ _ hq4.1, ck_mk zk_175, f, b2_mk]
    have e1 : ii (i : Int) + 1 = ii ((i + 1 : Nat) : Int) := by rw [ii_lits.2.1, ii_add]; rfl
    have hb := fw_b (y := y) (cs := cs) n 0 (rs (frs h p q) (12 + q.toNat) i)
    have hn20 := hs.1
    by_cases hc : fw y cs n (rs (frs h p q) (12 + q.toNat) i) 0 = -1
    · rw [hc, if_pos (by decide), v_mk]
      unfold f_X6_habitsThatFit_b56
      rw [e1, v_mk, if_pos rfl]
      exact ih (i + 1) m' _ _ (by omega) (by omega) s1
    · rw [if_neg (by rw [show (-1 : Int32) = ii (-1) by decide, ii_eq (by omega) (by omega) (by omega) (by omega)]; exact hc)]
      unfold f_X6_habitsThatFit_b56
      rw [e1, v_mk, if_neg hc]
      exact ih (i + 1) m' _ _ (by omega) (by omega) s1
theorem habits_m (hR : Rel g h y) (hg0 : 0 ≤ g) (hg : g ≤ 80000000) (hL : 0 < y 0 0) (h2 : two y p q) (hn8 : n ≤ 8) (hs : Sm h 32 219 cs n) : ∀ (d i m : Nat) (h' : zM) (s : Int32), i + d = 10 → d < m → sm h h' → ∃ h1, f_X10_habits_l21 m (mk h' b) 205 (ii p) (ii q) s (ii i) = some (hst y cs n (fun i => rs (frs h p q) (12 + q.toNat) i) d s i, mk h1 b) ∧ sm h h1 := by
  have hn := hR.1.1.2.1.2
  have hq4 : q.toNat < 4 ∧ 0 ≤ q := by have := h2.2.1; omega
  intro d
  induction d with
  | zero =>
    intro i m h' s hi hm hsw
    obtain ⟨m', rfl⟩ : ∃ m', m = m' + 1 := ⟨m - 1, by omega⟩
    refine ⟨h', ?_, hsw⟩
    show f_X10_habits_w21 (f_X10_habits_l21 m') (mk h' b) 205 (ii p) (ii q) s (ii i) = _
    unfold f_X10_habits_w21
    rw [show (10 : Int32) = ii 10 by decide, if_pos (by rw [ii_le (by omega) (by omega) (by omega) (by omega)]; omega)]
    rfl
  | succ d ih =>
    intro i m h' s hi hm hsw
    obtain ⟨m', rfl⟩ : ∃ m', m = m' + 1 := ⟨m - 1, by omega⟩
    show ∃ h1, f_X10_habits_w21 (f_X10_habits_l21 m') (mk h' b) 205 (ii p) (ii q) s (ii i) = _ ∧ _
    have hR' := Rel_sc hR (sm_sc hsw)
    have hT := Tw_rs (j := 12 + q.toNat) (v := i) (frs_tw hR' hg0 h2 hL) hn (by omega) (fun a => by omega) (fun a => by omega) (fun a => by omega) (fun a => by omega)
    have hms := mcp_sm h'
    have hYm : Ym (mcH h') y := Ym_c hR'.1.2.2 (fun c k q => hms c k (by omega))
    obtain ⟨r', f⟩ := asSeen_m (b := b) hR.1.1 hYm hn8 (Sm_sm (Sm_sm hs (by omega) hsw) (by omega) hms) hT.2.1 (rq_Pr hT.2.2.2 hT.2.2.1) (by omega)
    rw [fw_tw hR.1.1 n 0 _ _ _ hT, frs_sc (sm_sc hsw)] at f
    have s1 : sm h (putM (mcH h') 28 r') := sm_tr hsw (putM_sm hms)
    unfold f_X10_habits_w21 hst
    rw [show (10 : Int32) = ii 10 by decide, if_neg (by rw [ii_le (by omega) (by omega) (by omega) (by omega)]; omega), ck_mk zk_205, begin_m hR' h2, b1_mk, gW, show (40 : Int32) = ii 40 by decide, ii_add, wrM (j := 12 + q.toNat) (by omega) (by omega) (by omega), ck_mk zk_205, f, b2_mk]
    have e1 : ii (i : Int) + 1 = ii ((i + 1 : Nat) : Int) := by rw [ii_lits.2.1, ii_add]; rfl
    unfold f_X10_one
    by_cases hc : fw y cs n (rs (frs h p q) (12 + q.toNat) i) 0 = -1
    · rw [if_pos hc, if_neg (by decide), if_pos hc]
      unfold f_X10_one_b9
      rw [b2_mk, v_mk, e1, v_mk]
      exact ih (i + 1) m' _ _ (by omega) (by omega) s1
    · rw [if_neg hc, if_pos (by decide), if_neg hc]
      unfold f_X10_one_b9
      rw [b2_mk, shz, v_mk, e1, v_mk]
      exact ih (i + 1) m' _ _ (by omega) (by omega) s1
end
theorem arm27 : ps_arm27 Inv := by
  rintro k M x z hk ⟨h, b, y, rfl, hR⟩
  obtain ⟨X, rfl, x1, x2⟩ := ex_ii x
  obtain ⟨Z, rfl, z1, z2⟩ := ex_ii z
  obtain ⟨t, ft, hc⟩ := refTwo (b := b) hR.1 x1 x2 z1 z2
  have hc0 := hc
  have fail : ∀ t : Int, t < 0 → -2147483648 ≤ t → f_X9_refusalOfTwo (mk h b) 0 (ii X) (ii Z) = some (ii t, mk h b) → ((t = -1000000001 ∧ ¬ two y X Z) ∨ (t = -1000000003 ∧ two y X Z ∧ y 0 0 = 0) ∨ (t = 0 ∧ two y X Z ∧ 0 < y 0 0)) → ps_eqv Inv k (mk h b) (f_X9_habits (mk h b) 0 (ii X) (ii Z)) (fun M => f_X10_habits M 205 (ii X) (ii Z)) := by
    intro t ht0 ht1 ft hc
    refine eqv_of (r := ii t) (h1 := h) (h2 := h) (b1 := b) (b2 := b) ?_ ?_ (inv_of hR)
    · unfold f_X9_habits
      rw [ck_mk zk_0, ft, b2_mk, if_neg (by rw [ii_lits.1, ii_eq (by omega) (by omega) (by omega) (by omega)]; omega)]
      rfl
    · show f_X10_habits (mk h b) 205 (ii X) (ii Z) = _
      unfold f_X10_habits
      rw [ck_mk zk_205, mrefTwo hR.1 x1 x2 z1 z2 hc, b2_mk, if_neg (by rw [ii_lits.1, ii_le (by omega) (by omega) (by omega) (by omega)]; omega), ck_mk zk_205, mrefTwo hR.1 x1 x2 z1 z2 hc, b2_mk]
  rcases hc with ⟨rfl, c⟩ | ⟨rfl, c, c0⟩ | ⟨rfl, h2, hL⟩
  · exact fail _ (by omega) (by omega) ft hc0
  · exact fail _ (by omega) (by omega) ft hc0
  · obtain ⟨n, n1, n2, n3, n4⟩ := hR.2.2.2.1
    have hSh := Ls_Sh (b := b) zk_189 (zr_189_0 b) zk_190 zl_190 (by omega) (by omega) n1 n2 n4
    obtain ⟨h1, f1, s1⟩ := habits_c hR (by omega) (by omega) hL h2 hSh 10 0 ps_fu h (ii 0) (by omega) (by unfold ps_fu; omega) (sw_rf h)
    have hR1 := Rel_sc hR (sw_sc s1)
    have hSm : Sm h1 32 219 (fun j => (h 190 j).toInt) n := ⟨by rw [s1 205 32 (by omega)]; exact n3, fun j hj => by rw [s1 219 j (by omega), (n4 j hj).1]; exact ⟨(ii_toInt _).symm, (n4 j hj).2⟩⟩
    obtain ⟨h3, f2, s2⟩ := habits_m (b := b) hR1 (by omega) (by omega) hL h2 n1 hSm 10 0 ps_fu h1 (ii 0) (by omega) (by unfold ps_fu; omega) (sm_rf h1)
    rw [frs_sc (sw_sc s1)] at f2
    refine eqv_of (h1 := h1) (h2 := h3) (b1 := b) (b2 := b) (r := hst y (fun j => (h 190 j).toInt) n (fun i => rs (frs h X Z) (12 + Z.toNat) i) 10 (ii 0) 0) ?_ ?_ (inv_of (Rel_sc hR1 (sm_sc s2)))
    · unfold f_X9_habits f_X6_habitsThatFit
      rw [ck_mk zk_0, ft, b2_mk, if_pos (by decide), g0_4, g0_0, g0_2, g0_6, ck_mk zk_175, show (0 : Int32) = ii 0 by decide]
      rw [show f_X6_habitsThatFit_l6 ps_fu (mk h b) 175 1 18 (ii X) (ii Z) 189 (ii 0) (ii 0) = _ from f1, b2_mk]
      rfl
    · show f_X10_habits (mk h1 b) 205 (ii X) (ii Z) = _
      unfold f_X10_habits
      rw [ck_mk zk_205, mrefTwo hR1.1 x1 x2 z1 z2 hc0, b2_mk, if_pos (by decide), show (0 : Int32) = ii 0 by decide]
      exact f2
