section
variable {h : zM} {b : Bool} {y : Nat → Nat → Int} {g : Int} {n row : Nat}
theorem turned_mk {x : Int32} {M : ps_M} (hn : n ≤ 10) : ∀ (d k m : Nat) (s : Int32), k + d = n → d < m → f_X6_turnedRound_l4 m M x (ii (n : Int)) s (ii (k : Int)) = some (trd n x d s k, M) := by
  intro d
  induction d with
  | zero =>
    intro k m s hk hm
    obtain ⟨m', rfl⟩ : ∃ m', m = m' + 1 := ⟨m - 1, by omega⟩
    show f_X6_turnedRound_w4 (f_X6_turnedRound_l4 m') M x (ii (n : Int)) s (ii (k : Int)) = _
    unfold f_X6_turnedRound_w4
    rw [if_pos (by rw [ii_le (by omega) (by omega) (by omega) (by omega)]; omega)]
    rfl
  | succ d ih =>
    intro k m s hk hm
    obtain ⟨m', rfl⟩ : ∃ m', m = m' + 1 := ⟨m - 1, by omega⟩
    show f_X6_turnedRound_w4 (f_X6_turnedRound_l4 m') M x (ii (n : Int)) s (ii (k : Int)) = _
    unfold f_X6_turnedRound_w4
    rw [if_neg (by rw [ii_le (by omega) (by omega) (by omega) (by omega)]; omega), v_mk, suc_ii, v_mk]
    exact ih (k + 1) m' _ (by omega) (by omega)
theorem ones_mk {x : Int32} {M : ps_M} : f_X10_ones M x = some (ons x 10 0 0, M) := by
  have key : ∀ (d k m : Nat) (s : Int32), k + d = 10 → d < m → f_X10_ones_l4 m M x s (ii (k : Int)) = some (ons x d s k, M) := by
    intro d
    induction d with
    | zero =>
      intro k m s hk hm
      obtain ⟨m', rfl⟩ : ∃ m', m = m' + 1 := ⟨m - 1, by omega⟩
      show f_X10_ones_w4 (f_X10_ones_l4 m') M x s (ii (k : Int)) = _
      unfold f_X10_ones_w4
      rw [show (10 : Int32) = ii 10 by decide, if_pos (by rw [ii_le (by omega) (by omega) (by omega) (by omega)]; omega)]
      rfl
    | succ d ih =>
      intro k m s hk hm
      obtain ⟨m', rfl⟩ : ∃ m', m = m' + 1 := ⟨m - 1, by omega⟩
      show f_X10_ones_w4 (f_X10_ones_l4 m') M x s (ii (k : Int)) = _
      unfold f_X10_ones_w4
      rw [show (10 : Int32) = ii 10 by decide, if_neg (by rw [ii_le (by omega) (by omega) (by omega) (by omega)]; omega), v_mk, suc_ii, v_mk]
      exact ih (k + 1) m' _ (by omega) (by omega)
  exact key 10 0 ps_fu 0 (by omega) (by unfold ps_fu; omega)
/-- the depth behind a row of turns, in whole numbers -/
def dpt (y : Nat → Nat → Int) (r : Nat → Int) (n row : Nat) : Int := (dep y (fun i => bt (ii (row : Int)) (n - 1 - i)) n 0 r) 19
def rsf (y : Nat → Nat → Int) (r : Nat → Int) (n : Nat) : Nat → Nat → Int × Nat → Int × Nat
  | 0, _, S => S
  | d + 1, row, S => rsf y r n d (row + 1) (if S.1 < dpt y r n row ∨ (dpt y r n row = S.1 ∧ bcn (ii (row : Int)) < bcn (ii (S.2 : Int))) then (dpt y r n row, row) else S)
theorem rest_c (hR : Rel g h y) (hg : g ≤ 70000000) (hL : 0 < y 0 0) (hp : Pr y (wk h 18)) (hn : n ≤ 10) : ∀ (d row m : Nat) (h' : zM) (S : Int × Nat), row + d = 2 ^ n → d < m → sv h h' → h' 175 3 = ii S.1 → -1 ≤ S.1 ∧ S.1 ≤ 1200 → ∃ h1, f_X6_findRests_l14 m (mk h' b) 175 1 18 (ii (n : Int)) (bcn (ii (S.2 : Int))) (ii (S.2 : Int)) (ii (row : Int)) = some (tr n (rsf y (wk h 18) n d row S).2, mk h1 b) ∧ sv h h1 ∧ h1 175 3 = ii (rsf y (wk h 18) n d row S).1 ∧ -1 ≤ (rsf y (wk h 18) n d row S).1 ∧ (rsf y (wk h 18) n d row S).1 ≤ 1200 := by
  obtain ⟨c0, c1, c2⟩ := chk_0 n (List.mem_range.mpr (by omega))
  intro d
  induction d with
  | zero =>
    intro row m h' S hr hm hs h3 hS
    obtain ⟨m', rfl⟩ : ∃ m', m = m' + 1 := ⟨m - 1, by omega⟩
    refine ⟨h', ?_, hs, h3, hS⟩
    show f_X6_findRests_w14 (f_X6_findRests_l14 m') (mk h' b) 175 1 18 (ii (n : Int)) (bcn (ii (S.2 : Int))) (ii (S.2 : Int)) (ii (row : Int)) = _
    unfold f_X6_findRests_w14 f_X6_turnedRound
    rw [c1, if_pos (by rw [ii_le (by omega) (by omega) (by omega) (by omega)]; omega)]
    have e := turned_mk (M := mk h' b) (x := ii (S.2 : Int)) hn n 0 ps_fu 0 (by omega) (by unfold ps_fu; omega)
    rw [show f_X6_turnedRound_l4 ps_fu (mk h' b) (ii (S.2 : Int)) (ii (n : Int)) 0 0 = _ from e, b2_mk]
    rfl
  | succ d ih =>
    intro row m h' S hr hm hs h3 hS
    obtain ⟨m', rfl⟩ : ∃ m', m = m' + 1 := ⟨m - 1, by omega⟩
    show ∃ h1, f_X6_findRests_w14 (f_X6_findRests_l14 m') (mk h' b) 175 1 18 (ii (n : Int)) (bcn (ii (S.2 : Int))) (ii (S.2 : Int)) (ii (row : Int)) = _ ∧ _
    have hR' := Rel_sc hR (sv_sc hs)
    have e18 := sc_wk (sv_sc hs)
    have hw := hR'.2.1.1.2.2.2.2.1
    have hO : Ok y g (wk h 18) (wk h 18) := Ok_rf hR.2.1
    obtain ⟨r', f⟩ := dep_c (b := b) (row := row) hR.1.1 hL hR'.1.2.1 hn n 0 ps_fu g (wk h 18) (by omega) (by unfold ps_fu; omega) hO hp (by omega)
    have hdb := (dep_ok (bs := fun i => bt (ii (row : Int)) (n - 1 - i)) (bs' := fun i => bt (ii (row : Int)) (n - 1 - i)) hR.1.1 hL n 0 g _ _ (fun _ _ _ => rfl) hO hp).2
    have s1 : sv h (putW h' 176 r') := fun c k q => by rw [putW_o _ _ _ (by omega), hs c k q]
    have h31 : putW h' 176 r' 175 3 = ii S.1 := by rw [putW_o _ _ _ (by omega), h3]
    have fd : f_X6_depthBehind (mk h' b) 175 1 18 (ii (row : Int)) (ii (n : Int)) = some (ii (dpt y (wk h 18) n row), mk (putW h' 176 r') b) := by
      unfold f_X6_depthBehind
      rw [gR_mk zk_175 (zr_175_8 b), ck_mk iw_176.1, become_mk iw_176 iw_18 (by omega) hw, b1_mk, e18, show (1 : Int32) = ii 1 by decide, ii_sub, v_mk]
      rw [show ((n : Int) - 1) = (n : Int) - 1 - ((0 : Nat) : Int) by omega]
      exact f
    generalize putW h' 176 r' = F at *
    have hdb' : 0 ≤ dpt y (wk h 18) n row ∧ dpt y (wk h 18) n row ≤ 1200 := hdb
    unfold f_X6_findRests_w14 rsf
    rw [c1, if_neg (by rw [ii_le (by omega) (by omega) (by omega) (by omega)]; omega), bcn_mk, b2_mk, ck_mk zk_175, fd, b2_mk, gI_mk zk_175, h31]
    have upd : (S.1 < dpt y (wk h 18) n row ∨ (dpt y (wk h 18) n row = S.1 ∧ bcn (ii (row : Int)) < bcn (ii (S.2 : Int)))) → ∃ h1, f_X6_findRests_b65 (f_X6_findRests_l14 m') (mk F b) 175 1 18 (ii (n : Int)) (ii (row : Int)) (bcn (ii (row : Int))) (ii (dpt y (wk h 18) n row)) = some (tr n (rsf y (wk h 18) n d (row + 1) (dpt y (wk h 18) n row, row)).2, mk h1 b) ∧ sv h h1 ∧ h1 175 3 = ii (rsf y (wk h 18) n d (row + 1) (dpt y (wk h 18) n row, row)).1 ∧ -1 ≤ (rsf y (wk h 18) n d (row + 1) (dpt y (wk h 18) n row, row)).1 ∧ (rsf y (wk h 18) n d (row + 1) (dpt y (wk h 18) n row, row)).1 ≤ 1200 := by
      intro _
      unfold f_X6_findRests_b65 f_X6_findRests_b79
      rw [pI_mk zk_175, suc_ii, v_mk]
      exact ih (row + 1) m' _ (dpt y (wk h 18) n row, row) (by omega) (by omega) (fun c k q => by rw [uI_o (by omega), s1 c k q]) (uI_s ..) (by show -1 ≤ dpt y (wk h 18) n row ∧ dpt y (wk h 18) n row ≤ 1200; omega)
    have kee : ∃ h1, f_X6_findRests_b79 (f_X6_findRests_l14 m') (mk F b) 175 1 18 (ii (n : Int)) (bcn (ii (S.2 : Int))) (ii (S.2 : Int)) (ii (row : Int)) = some (tr n (rsf y (wk h 18) n d (row + 1) S).2, mk h1 b) ∧ sv h h1 ∧ h1 175 3 = ii (rsf y (wk h 18) n d (row + 1) S).1 ∧ -1 ≤ (rsf y (wk h 18) n d (row + 1) S).1 ∧ (rsf y (wk h 18) n d (row + 1) S).1 ≤ 1200 := by
      unfold f_X6_findRests_b79
      rw [suc_ii, v_mk]
      exact ih (row + 1) m' _ S (by omega) (by omega) s1 h31 hS
    by_cases d1 : S.1 < dpt y (wk h 18) n row
    · rw [if_pos (by rw [ii_lt (by omega) (by omega) (by omega) (by omega)]; exact d1), if_pos (Or.inl d1 : S.1 < dpt y (wk h 18) n row ∨ (dpt y (wk h 18) n row = S.1 ∧ bcn (ii (row : Int)) < bcn (ii (S.2 : Int))))]
      exact upd (Or.inl d1)
    · rw [if_neg (by rw [ii_lt (by omega) (by omega) (by omega) (by omega)]; exact d1), gI_mk zk_175, h31]
      by_cases d2 : dpt y (wk h 18) n row = S.1
      · rw [if_pos (by rw [d2])]
        by_cases d3 : bcn (ii (S.2 : Int)) ≤ bcn (ii (row : Int))
        · rw [if_pos d3, if_neg (fun q => q.elim d1 (fun w => Int32.not_lt.mpr d3 w.2) : ¬ (S.1 < dpt y (wk h 18) n row ∨ (dpt y (wk h 18) n row = S.1 ∧ bcn (ii (row : Int)) < bcn (ii (S.2 : Int)))))]
          exact kee
        · have d3' := Int32.not_le.mp d3
          rw [if_neg d3, if_pos (Or.inr ⟨d2, d3'⟩ : S.1 < dpt y (wk h 18) n row ∨ (dpt y (wk h 18) n row = S.1 ∧ bcn (ii (row : Int)) < bcn (ii (S.2 : Int))))]
          exact upd (Or.inr ⟨d2, d3'⟩)
      · rw [if_neg (by rw [ii_eq (by omega) (by omega) (by omega) (by omega)]; exact d2), if_neg (fun q => q.elim d1 (fun w => d2 w.1) : ¬ (S.1 < dpt y (wk h 18) n row ∨ (dpt y (wk h 18) n row = S.1 ∧ bcn (ii (row : Int)) < bcn (ii (S.2 : Int)))))]
        exact kee
theorem rest_m {X : Int} (hR : Rel g h y) (hg : g ≤ 70000000) (hL : 0 < y 0 0) (hp : Pr y (wk h 18)) (hn : n ≤ 10) : ∀ (d row m : Nat) (h' : zM) (S : Int × Nat), row + d = 2 ^ n → d < m → sm h h' → S.2 < 2 ^ n → -1 ≤ S.1 ∧ S.1 ≤ 1200 → ∃ h1, f_X10_whenRest_l43 m (mk h' b) 205 (ii (n : Int)) (ii X) (tr n S.2) (ii S.1) (ii (row : Int)) = (if ii X = 0 then f_X10_whenRest_b146 (mk h1 b) (ii (rsf y (wk h 18) n d row S).1) else f_X10_whenRest_b146 (mk h1 b) (tr n (rsf y (wk h 18) n d row S).2)) ∧ sm h h1 := by
  obtain ⟨c0, c1, c2⟩ := chk_0 n (List.mem_range.mpr (by omega))
  intro d
  induction d with
  | zero =>
    intro row m h' S hr hm hs hb2 hS
    obtain ⟨m', rfl⟩ : ∃ m', m = m' + 1 := ⟨m - 1, by omega⟩
    refine ⟨h', ?_, hs⟩
    show f_X10_whenRest_w43 (f_X10_whenRest_l43 m') (mk h' b) 205 (ii (n : Int)) (ii X) (tr n S.2) (ii S.1) (ii (row : Int)) = _
    unfold f_X10_whenRest_w43
    rw [c1, if_pos (by rw [ii_le (by omega) (by omega) (by omega) (by omega)]; omega)]
    rfl
  | succ d ih =>
    intro row m h' S hr hm hs hb2 hS
    obtain ⟨m', rfl⟩ : ∃ m', m = m' + 1 := ⟨m - 1, by omega⟩
    show ∃ h1, f_X10_whenRest_w43 (f_X10_whenRest_l43 m') (mk h' b) 205 (ii (n : Int)) (ii X) (tr n S.2) (ii S.1) (ii (row : Int)) = _ ∧ _
    have hR' := Rel_sc hR (sm_sc hs)
    have e18 := sc_wk (sm_sc hs)
    have hO := hR'.2.1
    unfold RN at hO
    rw [e18] at hO
    have hms := mcp_sm h'
    have hYm : Ym (mcH h') y := Ym_c hR'.1.2.2 (fun c k q => hms c k (by omega))
    obtain ⟨r', f⟩ := dep_m (b := b) (s := tr n row) hR.1.1 hL hYm hn n 0 ps_fu g (mrow h' 0) (by omega) (by unfold ps_fu; omega) (Ok_rm hO hL hp) (req_Pr hO.2.2 hp) (by omega)
    obtain ⟨hde, hdb⟩ := dep_ok (bs := fun i => bt (ii (row : Int)) (n - 1 - i)) (bs' := fun i => bt (tr n row) i) hR.1.1 hL n 0 g _ _ (fun j _ hj => bt_tr hn (by omega) (by omega)) hO hp
    rw [hde] at f
    have s1 : sm h (putM (mcH h') 28 r') := sm_tr hs (putM_sm hms)
    have fd : f_X10_depthBy (mk h' b) 205 (ii (n : Int)) (tr n row) = some (ii (dpt y (wk h 18) n row), mk (putM (mcH h') 28 r') b) := by
      unfold f_X10_depthBy
      rw [ck_mk zk_205, show (0 : Int32) = ii ((0 : Nat) : Int) by decide, show (28 : Int32) = ii ((28 : Nat) : Int) by decide, mcopy_mk (by omega) (by omega) (by omega), b1_mk, mcp_put h']
      exact f
    generalize putM (mcH h') 28 r' = F at *
    have hdb' : 0 ≤ dpt y (wk h 18) n row ∧ dpt y (wk h 18) n row ≤ 1200 := hdb
    -- the set of a row's turns
    have inner : ∀ (d2 k2 m2 : Nat) (s : Int32), k2 + d2 = n → d2 < m2 → trd n (ii (row : Int)) d2 s k2 = tr n row → ∃ h1, f_X10_whenRest_l57 (f_X10_whenRest_l43 m') m2 (mk h' b) 205 (ii (n : Int)) (ii X) (tr n S.2) (ii S.1) (ii (row : Int)) s (ii (k2 : Int)) = (if ii X = 0 then f_X10_whenRest_b146 (mk h1 b) (ii (rsf y (wk h 18) n (d + 1) row S).1) else f_X10_whenRest_b146 (mk h1 b) (tr n (rsf y (wk h 18) n (d + 1) row S).2)) ∧ sm h h1 := by
      intro d2
      induction d2 with
      | zero =>
        intro k2 m2 s hk2 hm2 ht
        obtain ⟨m2', rfl⟩ : ∃ m2', m2 = m2' + 1 := ⟨m2 - 1, by omega⟩
        have ht' : s = tr n row := ht
        subst ht'
        show ∃ h1, f_X10_whenRest_w57 (f_X10_whenRest_l43 m') (f_X10_whenRest_l57 (f_X10_whenRest_l43 m') m2') (mk h' b) 205 (ii (n : Int)) (ii X) (tr n S.2) (ii S.1) (ii (row : Int)) (tr n row) (ii (k2 : Int)) = _ ∧ _
        unfold f_X10_whenRest_w57 rsf f_X10_whenRest_b123 f_X10_whenRest_b130
        rw [if_pos (by rw [ii_le (by omega) (by omega) (by omega) (by omega)]; omega), ck_mk zk_205, fd, b2_mk]
        by_cases d1 : S.1 < dpt y (wk h 18) n row
        · rw [if_pos (by rw [ii_lt (by omega) (by omega) (by omega) (by omega)]; exact d1), if_pos (Or.inl d1 : S.1 < dpt y (wk h 18) n row ∨ (dpt y (wk h 18) n row = S.1 ∧ bcn (ii (row : Int)) < bcn (ii (S.2 : Int)))), suc_ii, v_mk]
          exact ih (row + 1) m' F (dpt y (wk h 18) n row, row) (by omega) (by omega) s1 (by show row < 2 ^ n; omega) (by show -1 ≤ dpt y (wk h 18) n row ∧ dpt y (wk h 18) n row ≤ 1200; omega)
        · rw [if_neg (by rw [ii_lt (by omega) (by omega) (by omega) (by omega)]; exact d1)]
          by_cases d2 : dpt y (wk h 18) n row = S.1
          · rw [if_pos (by rw [d2]), ones_mk, b2_mk, ones_mk, b2_mk, ons_tr hn (by omega : row < 2 ^ n), ons_tr hn hb2]
            by_cases d3 : bcn (ii (S.2 : Int)) ≤ bcn (ii (row : Int))
            · rw [if_pos d3, if_neg (fun q => q.elim d1 (fun w => Int32.not_lt.mpr d3 w.2) : ¬ (S.1 < dpt y (wk h 18) n row ∨ (dpt y (wk h 18) n row = S.1 ∧ bcn (ii (row : Int)) < bcn (ii (S.2 : Int))))), suc_ii, v_mk]
              exact ih (row + 1) m' F S (by omega) (by omega) s1 hb2 hS
            · have d3' := Int32.not_le.mp d3
              rw [if_neg d3, if_pos (Or.inr ⟨d2, d3'⟩ : S.1 < dpt y (wk h 18) n row ∨ (dpt y (wk h 18) n row = S.1 ∧ bcn (ii (row : Int)) < bcn (ii (S.2 : Int)))), suc_ii, v_mk]
              exact ih (row + 1) m' F (dpt y (wk h 18) n row, row) (by omega) (by omega) s1 (by show row < 2 ^ n; omega) (by show -1 ≤ dpt y (wk h 18) n row ∧ dpt y (wk h 18) n row ≤ 1200; omega)
          · rw [if_neg (by rw [ii_eq (by omega) (by omega) (by omega) (by omega)]; exact d2), if_neg (fun q => q.elim d1 (fun w => d2 w.1) : ¬ (S.1 < dpt y (wk h 18) n row ∨ (dpt y (wk h 18) n row = S.1 ∧ bcn (ii (row : Int)) < bcn (ii (S.2 : Int))))), suc_ii, v_mk]
            exact ih (row + 1) m' F S (by omega) (by omega) s1 hb2 hS
      | succ d2 ih2 =>
        intro k2 m2 s hk2 hm2 ht
        obtain ⟨m2', rfl⟩ : ∃ m2', m2 = m2' + 1 := ⟨m2 - 1, by omega⟩
        show ∃ h1, f_X10_whenRest_w57 (f_X10_whenRest_l43 m') (f_X10_whenRest_l57 (f_X10_whenRest_l43 m') m2') (mk h' b) 205 (ii (n : Int)) (ii X) (tr n S.2) (ii S.1) (ii (row : Int)) s (ii (k2 : Int)) = _ ∧ _
        unfold f_X10_whenRest_w57
        rw [if_neg (by rw [ii_le (by omega) (by omega) (by omega) (by omega)]; omega), v_mk, suc_ii, v_mk]
        exact ih2 (k2 + 1) m2' _ (by omega) (by omega) ht
    unfold f_X10_whenRest_w43
    rw [c1, if_neg (by rw [ii_le (by omega) (by omega) (by omega) (by omega)]; omega)]
    exact inner n 0 ps_fu 0 (by omega) (by unfold ps_fu; omega) rfl
end
theorem arm24 : ps_arm24 Inv := by
  rintro k M x z hk ⟨h, b, y, rfl, hR⟩
  obtain ⟨X, rfl, x1, x2⟩ := ex_ii x
  obtain ⟨Z, rfl, z1, z2⟩ := ex_ii z
  have hb := wk16_b hR.2.1 hR.1.1
  have minX : ∀ H : zM, f_X10_in (mk H b) ((ii X).toInt64) (1 : Int64) (10 : Int64) = some (ii (if 1 ≤ X ∧ X ≤ 10 then 1 else 0), mk H b) := fun H => by
    rw [ii_l64 x1 x2, show (1 : Int64) = l64 1 by decide, show (10 : Int64) = l64 10 by decide, in_mk (by omega) (by omega) (by omega) (by omega) (by omega) (by omega)]
  have winX : ∀ H : zM, f_X9_isWithin (mk H b) (ii X) (1 : Int32) (10 : Int32) = some (ii (if 1 ≤ X ∧ X ≤ 10 then 1 else 0), mk H b) := fun H => by
    rw [show (1 : Int32) = ii 1 by decide, show (10 : Int32) = ii 10 by decide, within_mk (by omega) (by omega) (by omega) (by omega) (by omega) (by omega)]
  have minZ : ∀ H : zM, f_X10_in (mk H b) ((ii Z).toInt64) (0 : Int64) (1 : Int64) = some (ii (if 0 ≤ Z ∧ Z ≤ 1 then 1 else 0), mk H b) := fun H => by
    rw [ii_l64 z1 z2, show (1 : Int64) = l64 1 by decide, show (0 : Int64) = l64 0 by decide, in_mk (by omega) (by omega) (by omega) (by omega) (by omega) (by omega)]
  have winZ : ∀ H : zM, f_X9_isWithin (mk H b) (ii Z) (0 : Int32) (1 : Int32) = some (ii (if 0 ≤ Z ∧ Z ≤ 1 then 1 else 0), mk H b) := fun H => by
    rw [show (1 : Int32) = ii 1 by decide, show (0 : Int32) = ii 0 by decide, within_mk (by omega) (by omega) (by omega) (by omega) (by omega) (by omega)]
  by_cases c : 1 ≤ X ∧ X ≤ 10
  · by_cases cz : 0 ≤ Z ∧ Z ≤ 1
    · by_cases cp : wk h 18 16 = -1
      · refine eqv_of (r := ii (-1000000003)) (h1 := h) (h2 := h) (b1 := b) (b2 := b) ?_ ?_ (inv_of hR)
        · unfold f_X9_whenRest
          rw [winX, b2_mk, if_pos c, if_neg (by decide), winZ, b2_mk, if_pos cz, if_neg (by decide), g0_2, ck_mk iw_18.1, pair18 hR.2.1 hR.1.1, b2_mk, if_pos cp, if_pos (by decide)]
          rfl
        · show f_X10_whenRest (mk h b) 205 (ii X) (ii Z) = _
          unfold f_X10_whenRest
          rw [minX, b2_mk, if_pos c, if_neg (by decide), minZ, b2_mk, if_pos cz, if_neg (by decide), ck_mk zk_205, mpair hR.2.1 hR.1.1 (fun _ _ => rfl), b2_mk, if_pos cp, if_pos (by decide)]
          rfl
      · obtain ⟨hL, hp⟩ := hb.2.2 cp
        obtain ⟨n, hXn⟩ : ∃ n : Nat, X = n := ⟨X.toNat, by omega⟩
        subst hXn
        have hn : n ≤ 10 := by omega
        obtain ⟨c0, c1, c2⟩ := chk_0 n (List.mem_range.mpr (by omega))
        have s0 : sv h (ps_uI h 175 3 (ii (-1))) := fun c k q => by rw [uI_o (by omega)]
        obtain ⟨h1, f1, s1, z3, hSb⟩ := rest_c (b := b) hR (by omega) hL hp hn (2 ^ n) 0 ps_fu _ (-1, 0) (by omega) (by unfold ps_fu; omega) s0 (uI_s ..) (by decide)
        have hR1 := Rel_sc hR (sv_sc s1)
        have e18 := sc_wk (sv_sc s1)
        obtain ⟨h3, f2, s2⟩ := rest_m (b := b) (X := Z) hR1 (by omega) hL (by rw [e18]; exact hp) hn (2 ^ n) 0 ps_fu h1 (-1, 0) (by omega) (by unfold ps_fu; omega) (sm_rf h1) (Nat.two_pow_pos n) (by decide)
        rw [e18] at f2
        generalize rsf y (wk h 18) n (2 ^ n) 0 (-1, 0) = S at *
        refine eqv_of (h1 := h1) (h2 := h3) (b1 := b) (b2 := b) (r := if Z = 0 then ii S.1 else tr n S.2) ?_ ?_ (inv_of (Rel_sc hR1 (sm_sc s2)))
        · unfold f_X9_whenRest f_X6_findRests
          rw [winX, b2_mk, if_pos c, if_neg (by decide), winZ, b2_mk, if_pos cz, if_neg (by decide), g0_2, ck_mk iw_18.1, pair18 hR.2.1 hR.1.1, b2_mk, if_neg cp, if_neg (by decide), g0_4, g0_0, g0_2, ck_mk zk_175, show (-1 : Int32) = ii (-1) by decide, pI_mk zk_175]
          rw [show f_X6_findRests_l14 ps_fu (mk (ps_uI h 175 3 (ii (-1))) b) 175 1 18 (ii (n : Int)) 0 0 0 = _ from f1, b2_mk]
          by_cases cz0 : Z = 0
          · rw [if_pos (by rw [cz0]; decide), if_pos cz0, g0_4, gI_mk zk_175, z3]
            rfl
          · rw [if_neg (by rw [ii_lits.1, ii_eq (by omega) (by omega) (by omega) (by omega)]; exact cz0), if_neg cz0]
            rfl
        · show f_X10_whenRest (mk h1 b) 205 (ii (n : Int)) (ii Z) = _
          unfold f_X10_whenRest
          rw [minX, b2_mk, if_pos c, if_neg (by decide), minZ, b2_mk, if_pos cz, if_neg (by decide), ck_mk zk_205, mpair hR1.2.1 hR1.1.1 (fun _ _ => rfl), b2_mk, if_neg (by rw [e18]; exact cp : ¬ wk h1 18 16 = -1), if_neg (by decide)]
          rw [c0] at f2
          refine (show f_X10_whenRest_l43 ps_fu (mk h1 b) 205 (ii (n : Int)) (ii Z) 0 (-1) 0 = _ from f2).trans ?_
          by_cases cz0 : Z = 0
          · rw [if_pos (by rw [cz0]; decide), if_pos cz0]
            rfl
          · rw [if_neg (by rw [ii_lits.1, ii_eq (by omega) (by omega) (by omega) (by omega)]; exact cz0), if_neg cz0]
            rfl
    · refine eqv_of (r := ii (-1000000002)) (h1 := h) (h2 := h) (b1 := b) (b2 := b) ?_ ?_ (inv_of hR)
      · unfold f_X9_whenRest
        rw [winX, b2_mk, if_pos c, if_neg (by decide), winZ, b2_mk, if_neg cz, if_pos (by decide)]
        rfl
      · show f_X10_whenRest (mk h b) 205 (ii X) (ii Z) = _
        unfold f_X10_whenRest
        rw [minX, b2_mk, if_pos c, if_neg (by decide), minZ, b2_mk, if_neg cz, if_pos (by decide)]
        rfl
  · refine eqv_of (r := ii (-1000000002)) (h1 := h) (h2 := h) (b1 := b) (b2 := b) ?_ ?_ (inv_of hR)
    · unfold f_X9_whenRest
      rw [winX, b2_mk, if_neg c, if_pos (by decide)]
      rfl
    · show f_X10_whenRest (mk h b) 205 (ii X) (ii Z) = _
      unfold f_X10_whenRest
      rw [minX, b2_mk, if_neg c, if_pos (by decide)]
      rfl
