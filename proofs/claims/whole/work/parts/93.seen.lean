/-! whether cuts are as they stand in a sheet -/
def fw (y : Nat → Nat → Int) (cs : Nat → Int) : Nat → (Nat → Int) → Nat → Int
  | 0, _, _ => -1
  | d + 1, r, i => if thr y r then i else if cut y r = cs i then fw y cs d (plr y r) (i + 1) else i
theorem fw_tw {y : Nat → Nat → Int} {cs : Nat → Int} (hy : Yk y) : ∀ (d n : Nat) (g : Int) (r m : Nat → Int), Tw y g r m → fw y cs d m n = fw y cs d r n := by
  intro d
  induction d with
  | zero => intro n g r m h; rfl
  | succ d ih =>
    intro n g r m h
    unfold fw
    by_cases ht : thr y r
    · rw [if_pos ht, if_pos ((Tw_thr h).mpr ht)]
    · rw [if_neg ht, if_neg (fun q => ht ((Tw_thr h).mp q)), Tw_cut h, ih (n + 1) (g + 9) _ _ (h.pull hy ht)]
theorem fw_b {y : Nat → Nat → Int} {cs : Nat → Int} : ∀ (d n : Nat) (r : Nat → Int), fw y cs d r n = -1 ∨ ((n : Int) ≤ fw y cs d r n ∧ fw y cs d r n < n + d) := by
  intro d
  induction d with
  | zero => intro n r; exact Or.inl rfl
  | succ d ih =>
    intro n r
    unfold fw
    repeat' split
    · right; omega
    · have := ih (n + 1) (plr y r); omega
    · right; omega
/-- a sheet: its cell, its marks, how many -/
def Sh (H : zM) (b : Bool) (c cr : Nat) (cs : Nat → Int) (n : Nat) : Prop := n ≤ 20 ∧ zK c = 5 ∧ zR b c 0 = cr + 1 ∧ zK cr = 21 ∧ n ≤ zL cr ∧ zL cr ≤ 1000 ∧ (c < 176 ∨ 180 < c) ∧ (cr < 176 ∨ 180 < cr) ∧ H c 1 = ii n ∧ ∀ j, j < n → H cr j = ii (cs j) ∧ 0 ≤ cs j ∧ cs j ≤ 999
section
variable {h : zM} {b : Bool} {y : Nat → Nat → Int} {g : Int} {r : Nat → Int} {cs : Nat → Int}
theorem mark_mk {c cr n i : Nat} (hs : Sh h b c cr cs n) (hi : i < n) : f_X5_mark (mk h b) c (ii (i : Int)) = some (ii (cs i), mk h b) := by
  obtain ⟨s1, s2, s3, s4, s5, s6, s7, s8, s9, s10⟩ := hs
  unfold f_X5_mark
  rw [if_neg (by rw [ii_lits.1, ii_lt (by omega) (by omega) (by omega) (by omega)]; omega), gI_mk s2, s9, if_neg (by rw [ii_le (by omega) (by omega) (by omega) (by omega)]; omega), gR_mk s2 s3, aL_mk s4, if_neg (by rw [ii_le (by omega) (by omega) (by omega) (by omega)]; omega), gR_mk s2 s3, aI_mk s4 (by omega) (by omega) (by omega), Int.toNat_natCast, (s10 i hi).1]
  rfl
theorem fw_c (hy : Yk y) (hYd : Yd h y) (hL : 0 < y 0 0) {c cr n : Nat} (hs : Sh h b c cr cs n) : ∀ (d i m : Nat) (g : Int) (r : Nat → Int), i + d = n → d < m → Vb y g r → Pr y r → g + 9 * d ≤ 100000000 → ∃ r', f_X6_firstWrong_l2 m (mk (putW h 176 r) b) 175 1 c (ii i) = some (ii (fw y cs d r i), mk (putW h 176 r') b) := by
  have hs' : ∀ r, Sh (putW h 176 r) b c cr cs n := fun r => by
    obtain ⟨s1, s2, s3, s4, s5, s6, s7, s8, s9, s10⟩ := hs
    exact ⟨s1, s2, s3, s4, s5, s6, s7, s8, by rw [putW_o _ _ _ (by omega)]; exact s9, fun j hj => by rw [putW_o _ _ _ (by omega)]; exact s10 j hj⟩
  intro d
  induction d with
  | zero =>
    intro i m g r hi hm hv hp hg
    obtain ⟨m', rfl⟩ : ∃ m', m = m' + 1 := ⟨m - 1, by omega⟩
    refine ⟨r, ?_⟩
    obtain ⟨s1, s2, s3, s4, s5, s6, s7, s8, s9, s10⟩ := hs' r
    show f_X6_firstWrong_w2 (f_X6_firstWrong_l2 m') (mk (putW h 176 r) b) 175 1 c (ii i) = _
    unfold f_X6_firstWrong_w2
    rw [gI_mk s2, s9, if_pos (by rw [ii_le (by omega) (by omega) (by omega) (by omega)]; omega)]
    rfl
  | succ d ih =>
    intro i m g r hi hm hv hp hg
    obtain ⟨m', rfl⟩ : ∃ m', m = m' + 1 := ⟨m - 1, by omega⟩
    obtain ⟨s1, s2, s3, s4, s5, s6, s7, s8, s9, s10⟩ := hs' r
    show ∃ r', f_X6_firstWrong_w2 (f_X6_firstWrong_l2 m') (mk (putW h 176 r) b) 175 1 c (ii i) = _
    unfold f_X6_firstWrong_w2 fw
    rw [gI_mk s2, s9, if_neg (by rw [ii_le (by omega) (by omega) (by omega) (by omega)]; omega), gR_mk zk_175 (zr_175_8 b), ck_mk iw_176.1, through_mk iw_176 hy hYd hv hL, b2_mk]
    by_cases ht : thr y r
    · refine ⟨r, ?_⟩
      rw [if_pos ht, if_neg (by decide), if_pos ht]
      rfl
    · have hv2 := plr_Vb hy hv hp ht
      have hp2 := (plr_Pr hy hp).1
      have hcb := cut_b hy hv hp ht
      have hci := (s10 i (by omega)).2
      rw [if_neg ht, if_pos (by decide), gR_mk zk_175 (zr_175_8 b), ck_mk iw_176.1, once_mk iw_176 hy hYd hv (by omega) hp ht, b2_mk, ck_mk s2, mark_mk (hs' _) (by omega), b2_mk, if_neg ht]
      by_cases hc : cut y r = cs i
      · rw [if_pos (by rw [hc]), if_pos hc, show ii (i : Int) + 1 = ii ((i + 1 : Nat) : Int) by rw [ii_lits.2.1, ii_add]; rfl, v_mk]
        exact ih (i + 1) m' (g + 9) (plr y r) (by omega) (by omega) hv2 hp2 (by omega)
      · refine ⟨plr y r, ?_⟩
        rw [if_neg (by rw [ii_eq (by omega) (by omega) (by omega) (by omega)]; exact hc), if_neg hc]
        rfl
theorem firstWrong_c (hy : Yk y) (hYd : Yd h y) (hL : 0 < y 0 0) {c cr n : Nat} (hs : Sh h b c cr cs n) (hv : Vb y g r) (hp : Pr y r) (hg : g ≤ 90000000) : ∃ r', f_X6_firstWrong (mk (putW h 176 r) b) 175 1 c = some (ii (fw y cs n r 0), mk (putW h 176 r') b) := by
  have := hs.1
  unfold f_X6_firstWrong
  exact fw_c hy hYd hL hs n 0 ps_fu g r (by omega) (by unfold ps_fu; omega) hv hp (by omega)
/-- the model's -/
def Sm (H : zM) (kd cr : Nat) (cs : Nat → Int) (n : Nat) : Prop := H 205 kd = ii n ∧ ∀ j, j < n → H cr j = ii (cs j) ∧ 0 ≤ cs j ∧ cs j ≤ 999
theorem judge_m (hy : Yk y) (hYm : Ym h y) {n : Nat} (hn : n ≤ 20) (hs : Sm h 34 220 cs n) : ∀ (d i m : Nat) (g : Int) (r : Nat → Int), i + d = n → d < m → Vb y g r → Pr y r → g + 9 * d ≤ 100000000 → ∃ r', f_X10_judge_l19 m (mk (putM h 28 r) b) 205 (ii i) = some (ii (fw y cs d r i), mk (putM h 28 r') b) := by
  obtain ⟨s1, s2⟩ := hs
  intro d
  induction d with
  | zero =>
    intro i m g r hi hm hv hp hg
    obtain ⟨m', rfl⟩ : ∃ m', m = m' + 1 := ⟨m - 1, by omega⟩
    refine ⟨r, ?_⟩
    show f_X10_judge_w19 (f_X10_judge_l19 m') (mk (putM h 28 r) b) 205 (ii i) = _
    unfold f_X10_judge_w19
    rw [gF, s1, if_pos (by rw [ii_le (by omega) (by omega) (by omega) (by omega)]; omega)]
    rfl
  | succ d ih =>
    intro i m g r hi hm hv hp hg
    obtain ⟨m', rfl⟩ : ∃ m', m = m' + 1 := ⟨m - 1, by omega⟩
    show ∃ r', f_X10_judge_w19 (f_X10_judge_l19 m') (mk (putM h 28 r) b) 205 (ii i) = _
    unfold f_X10_judge_w19 fw
    rw [gF, s1, if_neg (by rw [ii_le (by omega) (by omega) (by omega) (by omega)]; omega), ck_mk zk_205, show (28 : Int32) = ii ((28 : Nat) : Int) by decide, mthrough_mk hy hYm hv (by omega), b2_mk]
    by_cases ht : thr y r
    · refine ⟨r, ?_⟩
      rw [if_pos ht, if_neg (by decide), if_pos ht]
      rfl
    · have hv2 := plr_Vb hy hv hp ht
      have hp2 := (plr_Pr hy hp).1
      have hcb := cut_b hy hv hp ht
      obtain ⟨sa, sb⟩ := s2 i (by omega)
      rw [if_neg ht, if_pos (by decide), ck_mk zk_205, mpull_mk hy hYm hv (by omega) (by omega) hp ht, b2_mk, gR_mk zk_205 (zr_205_33 b), rdY zk_220 (by omega) (by omega) (by rw [zl_220]; omega) (by rw [zl_220]; omega), Int.toNat_natCast, sa, if_neg ht]
      by_cases hc : cut y r = cs i
      · rw [if_pos (by rw [hc]), if_pos hc, show ii (i : Int) + 1 = ii ((i + 1 : Nat) : Int) by rw [ii_lits.2.1, ii_add]; rfl, v_mk]
        exact ih (i + 1) m' (g + 9) (plr y r) (by omega) (by omega) hv2 hp2 (by omega)
      · refine ⟨plr y r, ?_⟩
        rw [if_neg (by rw [ii_eq (by omega) (by omega) (by omega) (by omega)]; exact hc), if_neg hc]
        rfl
theorem seen_m (hy : Yk y) (hYm : Ym h y) {n : Nat} (hn : n ≤ 8) (hs : Sm h 32 219 cs n) : ∀ (d i m : Nat) (g : Int) (r : Nat → Int), i + d = n → d + 1 < m → Vb y g r → Pr y r → g + 9 * d ≤ 100000000 → ∃ r', f_X10_isAsSeen_l4 m (mk (putM h 28 r) b) 205 (ii 1) (ii i) = some (ii (if fw y cs d r i = -1 then 1 else 0), mk (putM h 28 r') b) := by
  obtain ⟨s1, s2⟩ := hs
  have stop : ∀ (m i : Nat) (r : Nat → Int), i ≤ n + 1 → f_X10_isAsSeen_l4 (m + 1) (mk (putM h 28 r) b) 205 (ii 0) (ii i) = some (ii 0, mk (putM h 28 r) b) := by
    intro m i r hi
    show f_X10_isAsSeen_w4 (f_X10_isAsSeen_l4 m) (mk (putM h 28 r) b) 205 (ii 0) (ii i) = _
    unfold f_X10_isAsSeen_w4
    rw [gF, s1]
    by_cases c : (n : Int) ≤ i
    · rw [if_pos (by rw [ii_le (by omega) (by omega) (by omega) (by omega)]; exact c)]
      rfl
    · rw [if_neg (by rw [ii_le (by omega) (by omega) (by omega) (by omega)]; exact c), if_pos (by decide)]
      rfl
  intro d
  induction d with
  | zero =>
    intro i m g r hi hm hv hp hg
    obtain ⟨m', rfl⟩ : ∃ m', m = m' + 1 := ⟨m - 1, by omega⟩
    refine ⟨r, ?_⟩
    show f_X10_isAsSeen_w4 (f_X10_isAsSeen_l4 m') (mk (putM h 28 r) b) 205 (ii 1) (ii i) = _
    unfold f_X10_isAsSeen_w4
    rw [gF, s1, if_pos (by rw [ii_le (by omega) (by omega) (by omega) (by omega)]; omega)]
    rfl
  | succ d ih =>
    intro i m g r hi hm hv hp hg
    obtain ⟨m', rfl⟩ : ∃ m', m = m' + 1 := ⟨m - 1, by omega⟩
    obtain ⟨m'', rfl⟩ : ∃ m'', m' = m'' + 1 := ⟨m' - 1, by omega⟩
    show ∃ r', f_X10_isAsSeen_w4 (f_X10_isAsSeen_l4 (m'' + 1)) (mk (putM h 28 r) b) 205 (ii 1) (ii i) = _
    have e1 : ii (i : Int) + 1 = ii ((i + 1 : Nat) : Int) := by rw [ii_lits.2.1, ii_add]; rfl
    unfold f_X10_isAsSeen_w4 fw
    rw [gF, s1, if_neg (by rw [ii_le (by omega) (by omega) (by omega) (by omega)]; omega), if_neg (by decide), ck_mk zk_205, show (28 : Int32) = ii ((28 : Nat) : Int) by decide, mthrough_mk hy hYm hv (by omega), b2_mk]
    by_cases ht : thr y r
    · refine ⟨r, ?_⟩
      rw [if_pos ht, if_neg (by decide), if_pos ht, if_neg (by omega)]
      unfold f_X10_isAsSeen_b44 f_X10_isAsSeen_b45
      rw [e1, v_mk]
      exact stop m'' (i + 1) r (by omega)
    · have hv2 := plr_Vb hy hv hp ht
      have hp2 := (plr_Pr hy hp).1
      have hcb := cut_b hy hv hp ht
      obtain ⟨sa, sb⟩ := s2 i (by omega)
      rw [if_neg ht, if_pos (by decide), ck_mk zk_205, mpull_mk hy hYm hv (by omega) (by omega) hp ht, b2_mk, gR_mk zk_205 (zr_205_31 b), rdY zk_219 (by omega) (by omega) (by rw [zl_219]; omega) (by rw [zl_219]; omega), Int.toNat_natCast, sa, if_neg ht]
      by_cases hc : cut y r = cs i
      · rw [if_pos (by rw [hc]), if_pos hc]
        unfold f_X10_isAsSeen_b45
        rw [e1, v_mk]
        exact ih (i + 1) (m'' + 1) (g + 9) (plr y r) (by omega) (by omega) hv2 hp2 (by omega)
      · refine ⟨plr y r, ?_⟩
        rw [if_neg (by rw [ii_eq (by omega) (by omega) (by omega) (by omega)]; exact hc), if_neg hc, if_neg (by omega)]
        unfold f_X10_isAsSeen_b44 f_X10_isAsSeen_b45
        rw [e1, v_mk]
        exact stop m'' (i + 1) _ (by omega)
theorem asSeen_m (hy : Yk y) (hYm : Ym h y) {n : Nat} (hn : n ≤ 8) (hs : Sm h 32 219 cs n) (hv : Vb y g r) (hp : Pr y r) (hg : g ≤ 90000000) : ∃ r', f_X10_isAsSeen (mk (putM h 28 r) b) 205 = some (ii (if fw y cs n r 0 = -1 then 1 else 0), mk (putM h 28 r') b) := by
  unfold f_X10_isAsSeen
  exact seen_m hy hYm hn hs n 0 ps_fu g r (by omega) (by unfold ps_fu; omega) hv hp (by omega)
theorem Ls_Sh {c cr mr N n : Nat} (hk : zK c = 5) (hr : zR b c 0 = cr + 1) (hk2 : zK cr = 21) (hl : zL cr = N) (hN : N ≤ 20) (hc : (c < 176 ∨ 180 < c) ∧ (cr < 176 ∨ 180 < cr)) (hn : n ≤ N) (h1 : h c 1 = ii n) (h3 : ∀ j, j < n → h mr j = h cr j ∧ 0 ≤ (h cr j).toInt ∧ (h cr j).toInt ≤ 999) : Sh h b c cr (fun j => (h cr j).toInt) n :=
  ⟨by omega, hk, hr, hk2, by omega, by omega, hc.1, hc.2, h1, fun j hj => ⟨(ii_toInt _).symm, (h3 j hj).2⟩⟩
end
theorem arm30 : ps_arm30 Inv := by
  rintro k M hk ⟨h, b, y, rfl, hR⟩
  have hb := wk16_b hR.2.1 hR.1.1
  by_cases cp : wk h 18 16 = -1
  · refine eqv_of (r := ii (-1000000003)) (h1 := h) (h2 := h) (b1 := b) (b2 := b) ?_ ?_ (inv_of hR)
    · unfold f_X9_judge
      rw [g0_2, ck_mk iw_18.1, pair18 hR.2.1 hR.1.1, b2_mk, if_pos cp, if_pos (by decide)]
      rfl
    · show f_X10_judge (mk h b) 205 = _
      unfold f_X10_judge
      rw [ck_mk zk_205, mpair hR.2.1 hR.1.1 (fun _ _ => rfl), b2_mk, if_pos cp, if_pos (by decide)]
      rfl
  · obtain ⟨hL, hp⟩ := hb.2.2 cp
    obtain ⟨n, n1, n2, n3, n4⟩ := hR.2.2.2.2.1
    have hSh := Ls_Sh (b := b) zk_191 (zr_191_0 b) zk_192 zl_192 (by omega) (by omega) n1 n2 n4
    have hw := hR.2.1.1.2.2.2.2.1
    obtain ⟨r', f1⟩ := firstWrong_c hR.1.1 hR.1.2.1 hL hSh hR.2.1.1 hp (by omega)
    have s1 : sc h (putW h 176 r') := fun c k q => by rw [putW_o _ _ _ (by omega)]
    have hR1 := Rel_sc hR s1
    have e18 := sc_wk s1
    have hSm : Sm (putW h 176 r') 34 220 (fun j => (h 192 j).toInt) n := ⟨by rw [s1 205 34 (by omega)]; exact n3, fun j hj => by rw [s1 220 j (by omega), (n4 j hj).1]; exact ⟨(ii_toInt _).symm, (n4 j hj).2⟩⟩
    generalize hH : putW h 176 r' = h1 at *
    have hT := Tw_ok hR1.2.1 (by rw [e18]; exact hp)
    rw [e18] at hT
    have hs := mcp_sm h1
    have hYm : Ym (mcH h1) y := Ym_c hR1.1.2.2 (fun c k q => hs c k (by omega))
    have hSm' : Sm (mcH h1) 34 220 (fun j => (h 192 j).toInt) n := ⟨by rw [hs 205 34 (by omega)]; exact hSm.1, fun j hj => by rw [hs 220 j (by omega)]; exact hSm.2 j hj⟩
    obtain ⟨m', f2⟩ := judge_m (b := b) hR.1.1 hYm n1 hSm' n 0 ps_fu _ (mrow h1 0) (by omega) (by unfold ps_fu; omega) hT.2.1 (rq_Pr hT.2.2.2 hp) (by omega)
    rw [fw_tw hR.1.1 n 0 _ _ _ hT] at f2
    refine eqv_of (r := ii (fw y (fun j => (h 192 j).toInt) n (wk h 18) 0)) (h1 := h1) (h2 := putM (mcH h1) 28 m') (b1 := b) (b2 := b) ?_ ?_ (inv_of (Rel_sc hR1 (sm_sc (putM_sm hs))))
    · unfold f_X9_judge f_X6_wrongLine
      rw [g0_2, ck_mk iw_18.1, pair18 hR.2.1 hR.1.1, b2_mk, if_neg cp, if_neg (by decide), g0_4, g0_0, g0_2, g0_7, ck_mk zk_175, gR_mk zk_175 (zr_175_8 b), ck_mk iw_176.1, become_mk iw_176 iw_18 (by omega) hw, b1_mk, ck_mk zk_175, f1, b2_mk]
      rfl
    · show f_X10_judge (mk h1 b) 205 = _
      unfold f_X10_judge
      rw [ck_mk zk_205, mpair hR1.2.1 hR1.1.1 (fun _ _ => rfl), b2_mk, if_neg (by rw [e18]; exact cp : ¬ wk h1 18 16 = -1), if_neg (by decide), ck_mk zk_205, show (0 : Int32) = ii ((0 : Nat) : Int) by decide, show (28 : Int32) = ii ((28 : Nat) : Int) by decide, mcopy_mk (by omega) (by omega) (by omega), b1_mk, mcp_put h1, f2]
